theorem dX12_rest_0 : decode cX12_rest 0 = .ok (.aload_n 0, 1) := by decide +kernel
theorem dX12_rest_1 : decode cX12_rest 1 = .ok (.iconst 0, 1) := by decide +kernel
theorem dX12_rest_2 : decode cX12_rest 2 = .ok (.putfield 128, 3) := by decide +kernel
theorem dX12_rest_5 : decode cX12_rest 5 = .ok (.aload_n 0, 1) := by decide +kernel
theorem dX12_rest_6 : decode cX12_rest 6 = .ok (.invokevirtual 312, 3) := by decide +kernel
theorem dX12_rest_9 : decode cX12_rest 9 = .ok (.iconst 0, 1) := by decide +kernel
theorem dX12_rest_10 : decode cX12_rest 10 = .ok (.istore_n 1, 1) := by decide +kernel
theorem dX12_rest_11 : decode cX12_rest 11 = .ok (.iload_n 1, 1) := by decide +kernel
theorem dX12_rest_12 : decode cX12_rest 12 = .ok (.aload_n 0, 1) := by decide +kernel
theorem dX12_rest_13 : decode cX12_rest 13 = .ok (.getfield 134, 3) := by decide +kernel
theorem dX12_rest_16 : decode cX12_rest 16 = .ok (.if_icmp .ge 29, 3) := by decide +kernel
theorem dX12_rest_19 : decode cX12_rest 19 = .ok (.aload_n 0, 1) := by decide +kernel
theorem dX12_rest_20 : decode cX12_rest 20 = .ok (.getfield 81, 3) := by decide +kernel
theorem dX12_rest_23 : decode cX12_rest 23 = .ok (.iload_n 1, 1) := by decide +kernel
theorem dX12_rest_24 : decode cX12_rest 24 = .ok (.aload_n 0, 1) := by decide +kernel
theorem dX12_rest_25 : decode cX12_rest 25 = .ok (.getfield 72, 3) := by decide +kernel
theorem dX12_rest_28 : decode cX12_rest 28 = .ok (.iload_n 1, 1) := by decide +kernel
theorem dX12_rest_29 : decode cX12_rest 29 = .ok (.iaload, 1) := by decide +kernel
theorem dX12_rest_30 : decode cX12_rest 30 = .ok (.ifCond .le 7, 3) := by decide +kernel
theorem dX12_rest_33 : decode cX12_rest 33 = .ok (.iconst 0, 1) := by decide +kernel
theorem dX12_rest_34 : decode cX12_rest 34 = .ok (.goto 4, 3) := by decide +kernel
theorem dX12_rest_37 : decode cX12_rest 37 = .ok (.iconst (-1), 1) := by decide +kernel
theorem dX12_rest_38 : decode cX12_rest 38 = .ok (.iastore, 1) := by decide +kernel
theorem dX12_rest_39 : decode cX12_rest 39 = .ok (.iinc 1 1, 3) := by decide +kernel
theorem dX12_rest_42 : decode cX12_rest 42 = .ok (.goto (-31), 3) := by decide +kernel
theorem dX12_rest_45 : decode cX12_rest 45 = .ok (.iconst 0, 1) := by decide +kernel
theorem dX12_rest_46 : decode cX12_rest 46 = .ok (.istore_n 1, 1) := by decide +kernel
theorem dX12_rest_47 : decode cX12_rest 47 = .ok (.iconst 0, 1) := by decide +kernel
theorem dX12_rest_48 : decode cX12_rest 48 = .ok (.istore_n 2, 1) := by decide +kernel
theorem dX12_rest_49 : decode cX12_rest 49 = .ok (.aload_n 0, 1) := by decide +kernel
theorem dX12_rest_50 : decode cX12_rest 50 = .ok (.invokevirtual 314, 3) := by decide +kernel
theorem dX12_rest_53 : decode cX12_rest 53 = .ok (.ifCond .eq 48, 3) := by decide +kernel
theorem dX12_rest_56 : decode cX12_rest 56 = .ok (.iload_n 2, 1) := by decide +kernel
theorem dX12_rest_57 : decode cX12_rest 57 = .ok (.aload_n 0, 1) := by decide +kernel
theorem dX12_rest_58 : decode cX12_rest 58 = .ok (.invokevirtual 309, 3) := by decide +kernel
theorem dX12_rest_61 : decode cX12_rest 61 = .ok (.iadd, 1) := by decide +kernel
theorem dX12_rest_62 : decode cX12_rest 62 = .ok (.istore_n 2, 1) := by decide +kernel
theorem dX12_rest_63 : decode cX12_rest 63 = .ok (.iinc 1 1, 3) := by decide +kernel
theorem dX12_rest_66 : decode cX12_rest 66 = .ok (.iconst 0, 1) := by decide +kernel
theorem dX12_rest_67 : decode cX12_rest 67 = .ok (.istore_n 3, 1) := by decide +kernel
theorem dX12_rest_68 : decode cX12_rest 68 = .ok (.iload_n 3, 1) := by decide +kernel
theorem dX12_rest_69 : decode cX12_rest 69 = .ok (.aload_n 0, 1) := by decide +kernel
theorem dX12_rest_70 : decode cX12_rest 70 = .ok (.getfield 134, 3) := by decide +kernel
theorem dX12_rest_73 : decode cX12_rest 73 = .ok (.if_icmp .ge 25, 3) := by decide +kernel
theorem dX12_rest_76 : decode cX12_rest 76 = .ok (.aload_n 0, 1) := by decide +kernel
theorem dX12_rest_77 : decode cX12_rest 77 = .ok (.getfield 72, 3) := by decide +kernel
theorem dX12_rest_80 : decode cX12_rest 80 = .ok (.iload_n 3, 1) := by decide +kernel
theorem dX12_rest_81 : decode cX12_rest 81 = .ok (.iaload, 1) := by decide +kernel
theorem dX12_rest_82 : decode cX12_rest 82 = .ok (.ifCond .le 10, 3) := by decide +kernel
theorem dX12_rest_85 : decode cX12_rest 85 = .ok (.aload_n 0, 1) := by decide +kernel
theorem dX12_rest_86 : decode cX12_rest 86 = .ok (.getfield 81, 3) := by decide +kernel
theorem dX12_rest_89 : decode cX12_rest 89 = .ok (.iload_n 3, 1) := by decide +kernel
theorem dX12_rest_90 : decode cX12_rest 90 = .ok (.iload_n 1, 1) := by decide +kernel
theorem dX12_rest_91 : decode cX12_rest 91 = .ok (.iastore, 1) := by decide +kernel
theorem dX12_rest_92 : decode cX12_rest 92 = .ok (.iinc 3 1, 3) := by decide +kernel
theorem dX12_rest_95 : decode cX12_rest 95 = .ok (.goto (-27), 3) := by decide +kernel
theorem dX12_rest_98 : decode cX12_rest 98 = .ok (.goto (-49), 3) := by decide +kernel
theorem dX12_rest_101 : decode cX12_rest 101 = .ok (.iconst (-1), 1) := by decide +kernel
theorem dX12_rest_102 : decode cX12_rest 102 = .ok (.istore_n 3, 1) := by decide +kernel
theorem dX12_rest_103 : decode cX12_rest 103 = .ok (.iconst 0, 1) := by decide +kernel
theorem dX12_rest_104 : decode cX12_rest 104 = .ok (.istore 4, 2) := by decide +kernel
theorem dX12_rest_106 : decode cX12_rest 106 = .ok (.iload 4, 2) := by decide +kernel
theorem dX12_rest_108 : decode cX12_rest 108 = .ok (.aload_n 0, 1) := by decide +kernel
theorem dX12_rest_109 : decode cX12_rest 109 = .ok (.getfield 134, 3) := by decide +kernel
theorem dX12_rest_112 : decode cX12_rest 112 = .ok (.if_icmp .ge 54, 3) := by decide +kernel
theorem dX12_rest_115 : decode cX12_rest 115 = .ok (.aload_n 0, 1) := by decide +kernel
theorem dX12_rest_116 : decode cX12_rest 116 = .ok (.getfield 72, 3) := by decide +kernel
theorem dX12_rest_119 : decode cX12_rest 119 = .ok (.iload 4, 2) := by decide +kernel
theorem dX12_rest_121 : decode cX12_rest 121 = .ok (.iaload, 1) := by decide +kernel
theorem dX12_rest_122 : decode cX12_rest 122 = .ok (.ifCond .ne 38, 3) := by decide +kernel
theorem dX12_rest_125 : decode cX12_rest 125 = .ok (.aload_n 0, 1) := by decide +kernel
theorem dX12_rest_126 : decode cX12_rest 126 = .ok (.getfield 81, 3) := by decide +kernel
theorem dX12_rest_129 : decode cX12_rest 129 = .ok (.iload 4, 2) := by decide +kernel
theorem dX12_rest_131 : decode cX12_rest 131 = .ok (.iaload, 1) := by decide +kernel
theorem dX12_rest_132 : decode cX12_rest 132 = .ok (.iconst (-1), 1) := by decide +kernel
theorem dX12_rest_133 : decode cX12_rest 133 = .ok (.if_icmp .eq 27, 3) := by decide +kernel
theorem dX12_rest_136 : decode cX12_rest 136 = .ok (.iload_n 3, 1) := by decide +kernel
theorem dX12_rest_137 : decode cX12_rest 137 = .ok (.iconst (-1), 1) := by decide +kernel
theorem dX12_rest_138 : decode cX12_rest 138 = .ok (.if_icmp .eq 19, 3) := by decide +kernel
theorem dX12_rest_141 : decode cX12_rest 141 = .ok (.aload_n 0, 1) := by decide +kernel
theorem dX12_rest_142 : decode cX12_rest 142 = .ok (.getfield 81, 3) := by decide +kernel
theorem dX12_rest_145 : decode cX12_rest 145 = .ok (.iload 4, 2) := by decide +kernel
theorem dX12_rest_147 : decode cX12_rest 147 = .ok (.iaload, 1) := by decide +kernel
theorem dX12_rest_148 : decode cX12_rest 148 = .ok (.aload_n 0, 1) := by decide +kernel
theorem dX12_rest_149 : decode cX12_rest 149 = .ok (.getfield 81, 3) := by decide +kernel
theorem dX12_rest_152 : decode cX12_rest 152 = .ok (.iload_n 3, 1) := by decide +kernel
theorem dX12_rest_153 : decode cX12_rest 153 = .ok (.iaload, 1) := by decide +kernel
theorem dX12_rest_154 : decode cX12_rest 154 = .ok (.if_icmp .le 6, 3) := by decide +kernel
theorem dX12_rest_157 : decode cX12_rest 157 = .ok (.iload 4, 2) := by decide +kernel
theorem dX12_rest_159 : decode cX12_rest 159 = .ok (.istore_n 3, 1) := by decide +kernel
theorem dX12_rest_160 : decode cX12_rest 160 = .ok (.iinc 4 1, 3) := by decide +kernel
theorem dX12_rest_163 : decode cX12_rest 163 = .ok (.goto (-57), 3) := by decide +kernel
theorem dX12_rest_166 : decode cX12_rest 166 = .ok (.aload_n 0, 1) := by decide +kernel
theorem dX12_rest_167 : decode cX12_rest 167 = .ok (.iconst 0, 1) := by decide +kernel
theorem dX12_rest_168 : decode cX12_rest 168 = .ok (.putfield 131, 3) := by decide +kernel
theorem dX12_rest_171 : decode cX12_rest 171 = .ok (.aload_n 0, 1) := by decide +kernel
theorem dX12_rest_172 : decode cX12_rest 172 = .ok (.iload_n 2, 1) := by decide +kernel
theorem dX12_rest_173 : decode cX12_rest 173 = .ok (.invokevirtual 276, 3) := by decide +kernel
theorem dX12_rest_176 : decode cX12_rest 176 = .ok (.aload_n 0, 1) := by decide +kernel
theorem dX12_rest_177 : decode cX12_rest 177 = .ok (.iload_n 3, 1) := by decide +kernel
theorem dX12_rest_178 : decode cX12_rest 178 = .ok (.invokevirtual 276, 3) := by decide +kernel
theorem dX12_rest_181 : decode cX12_rest 181 = .ok (.iload_n 1, 1) := by decide +kernel
theorem dX12_rest_182 : decode cX12_rest 182 = .ok (.ireturn, 1) := by decide +kernel
theorem bkX12_rest_0 {b : Int} {mem : qm} {Q : Int → qm → Prop}
    {P1 : Int → qm → Prop}
    (l1 : q_Ev yX12_begin_ cX12_begin_ 2 none 1 0 0 [(2, 188)] (q_sh0, q_rb b, (q_up mem 188 17 0)) (qK (q_rb b) (P1)))
    (l2 : ∀ (r1 : Int), ∀ (m1 : qm), P1 r1 m1 → q_in32 r1 → q_At yX12_rest cX12_rest 5 (some .int) 2 0 0 (qK (q_rb b) Q) 11 [(2, 188), (0, 0), (4, 0), (4, 0), (4, 0)] [] (q_sh0, q_rb b, m1)) :
    q_At yX12_rest cX12_rest 5 (some .int) 2 0 0 (qK (q_rb b) Q) 0 [(2, 188), (4, 0), (4, 0), (4, 0), (4, 0)] [] (q_sh0, q_rb b, mem) := by
  refine q_aload_n dX12_rest_0 rfl rfl ?_
  refine qx_iconst dX12_rest_1 rfl rfl ?_
  refine q_putI (ci := 12) (k := 17) (kI := 17) (ty := .int) dX12_rest_2 rfl (by decide) rfl tw1200 rfl rfl rfl (fun _ => ⟨rfl, rfl⟩) qs188 ?_
  refine q_aload_n dX12_rest_5 rfl rfl ?_
  refine qx_invV (ci := 12) [] [(2, 188)] rfl qM_X12_begin_ dX12_rest_6 tw1559 rfl qs188 rfl rfl rfl rfl (l1) (fun r1 m1 p1 q1 => ?_)
  refine qx_iconst dX12_rest_9 rfl rfl ?_
  refine qx_istore_n (L' := [(2, 188), (0, 0), (4, 0), (4, 0), (4, 0)]) dX12_rest_10 rfl rfl rfl rfl ?_
  exact l2 r1 m1 p1 q1
theorem bkX12_rest_11 {b : Int} {mem : qm} {Q : Int → qm → Prop}
    {v1 : Int}
    (l1 : (mem 188 0) ≤ v1 → q_At yX12_rest cX12_rest 5 (some .int) 2 0 0 (qK (q_rb b) Q) 49 [(2, 188), (0, 0), (0, 0), (4, 0), (4, 0)] [] (q_sh0, q_rb b, mem))
    (o2 : v1 < (mem 188 0) → (0 ≤ v1 ∧ v1 < 9))
    (o3 : v1 < (mem 188 0) → (mem 207 v1) ≤ 0 → q_in32 (v1 + 1))
    (l4 : v1 < (mem 188 0) → (mem 207 v1) ≤ 0 → q_At yX12_rest cX12_rest 5 (some .int) 2 0 0 (qK (q_rb b) Q) 11 [(2, 188), (0, (v1 + 1)), (4, 0), (4, 0), (4, 0)] [] (q_sh0, q_rb b, (q_up mem 210 v1 (-1))))
    (o5 : v1 < (mem 188 0) → 0 < (mem 207 v1) → q_in32 (v1 + 1))
    (l6 : v1 < (mem 188 0) → 0 < (mem 207 v1) → q_At yX12_rest cX12_rest 5 (some .int) 2 0 0 (qK (q_rb b) Q) 11 [(2, 188), (0, (v1 + 1)), (4, 0), (4, 0), (4, 0)] [] (q_sh0, q_rb b, (q_up mem 210 v1 0))) :
    q_At yX12_rest cX12_rest 5 (some .int) 2 0 0 (qK (q_rb b) Q) 11 [(2, 188), (0, v1), (4, 0), (4, 0), (4, 0)] [] (q_sh0, q_rb b, mem) := by
  refine q_iload_n dX12_rest_11 rfl rfl ?_
  refine q_aload_n dX12_rest_12 rfl rfl ?_
  refine qx_getI (ci := 12) (k := 0) (v := (mem 188 0)) dX12_rest_13 rfl rfl rfl tw1183 rfl qs188 rfl ?_
  refine qx_icmp_ge (tgt := 45) dX12_rest_16 (by decide) (fun c1 => ?_) (fun c1 => ?_)
  · skip
    refine qx_iconst dX12_rest_45 rfl rfl ?_
    refine qx_istore_n (L' := [(2, 188), (0, 0), (4, 0), (4, 0), (4, 0)]) dX12_rest_46 rfl rfl rfl rfl ?_
    refine qx_iconst dX12_rest_47 rfl rfl ?_
    refine qx_istore_n (L' := [(2, 188), (0, 0), (0, 0), (4, 0), (4, 0)]) dX12_rest_48 rfl rfl rfl rfl ?_
    exact l1 c1
  · skip
    refine q_aload_n dX12_rest_19 rfl rfl ?_
    refine q_getR (ci := 12) (k := 37) dX12_rest_20 rfl (by decide) rfl tw1220 (by decide) qs188 qw188_37 (by decide) ?_
    refine q_iload_n dX12_rest_23 rfl rfl ?_
    refine q_aload_n dX12_rest_24 rfl rfl ?_
    refine q_getR (ci := 12) (k := 33) dX12_rest_25 rfl (by decide) rfl tw1216 (by decide) qs188 qw188_33 (by decide) ?_
    refine q_iload_n dX12_rest_28 rfl rfl ?_
    refine qx_iald (v := (mem 207 v1)) dX12_rest_29 qs207 (o2 c1) rfl ?_
    refine qx_if_le (tgt := 37) dX12_rest_30 (by decide) (fun c2 => ?_) (fun c2 => ?_)
    · skip
      refine qx_iconst dX12_rest_37 rfl rfl ?_
      refine q_iast dX12_rest_38 qs210 ((o2 c1)).1 ((o2 c1)).2 ?_
      refine qx_iinc (L' := [(2, 188), (0, (v1 + 1)), (4, 0), (4, 0), (4, 0)]) dX12_rest_39 rfl rfl rfl (o3 c1 c2) rfl ?_
      refine q_goto (tgt := 11) dX12_rest_42 (by decide) ?_
      exact l4 c1 c2
    · skip
      refine qx_iconst dX12_rest_33 rfl rfl ?_
      refine q_goto (tgt := 38) dX12_rest_34 (by decide) ?_
      refine q_iast dX12_rest_38 qs210 ((o2 c1)).1 ((o2 c1)).2 ?_
      refine qx_iinc (L' := [(2, 188), (0, (v1 + 1)), (4, 0), (4, 0), (4, 0)]) dX12_rest_39 rfl rfl rfl (o5 c1 c2) rfl ?_
      refine q_goto (tgt := 11) dX12_rest_42 (by decide) ?_
      exact l6 c1 c2
theorem bkX12_rest_49 {b : Int} {mem : qm} {Q : Int → qm → Prop}
    {v1 v2 : Int}
    {P1 : Int → qm → Prop}
    (l1 : q_Ev yX12_isMoving cX12_isMoving 2 (some .boolean) 1 0 0 [(2, 188)] (q_sh0, q_rb b, mem) (qK (q_rb b) (P1)))
    (l2 : ∀ (r1 : Int), ∀ (m1 : qm), P1 r1 m1 → q_in32 r1 → r1 = 0 → q_At yX12_rest cX12_rest 5 (some .int) 2 0 0 (qK (q_rb b) Q) 106 [(2, 188), (0, v1), (0, v2), (0, (-1)), (0, 0)] [] (q_sh0, q_rb b, m1))
    {P3 : Int → qm → Int → qm → Prop}
    (l3 : ∀ (r1 : Int), ∀ (m1 : qm), P1 r1 m1 → q_in32 r1 → r1 ≠ 0 → q_Ev yX12_goOn cX12_goOn 5 (some .int) 1 0 0 [(2, 188)] (q_sh0, q_rb b, m1) (qK (q_rb b) (P3 r1 m1)))
    (o4 : ∀ (r1 : Int), ∀ (m1 : qm), P1 r1 m1 → q_in32 r1 → r1 ≠ 0 → ∀ (r3 : Int), ∀ (m3 : qm), P3 r1 m1 r3 m3 → q_in32 r3 → q_in32 (v2 + r3) ∧ q_in32 (v1 + 1))
    (l5 : ∀ (r1 : Int), ∀ (m1 : qm), P1 r1 m1 → q_in32 r1 → r1 ≠ 0 → ∀ (r3 : Int), ∀ (m3 : qm), P3 r1 m1 r3 m3 → q_in32 r3 → q_At yX12_rest cX12_rest 5 (some .int) 2 0 0 (qK (q_rb b) Q) 68 [(2, 188), (0, (v1 + 1)), (0, (v2 + r3)), (0, 0), (4, 0)] [] (q_sh0, q_rb b, m3)) :
    q_At yX12_rest cX12_rest 5 (some .int) 2 0 0 (qK (q_rb b) Q) 49 [(2, 188), (0, v1), (0, v2), (4, 0), (4, 0)] [] (q_sh0, q_rb b, mem) := by
  refine q_aload_n dX12_rest_49 rfl rfl ?_
  refine qx_invV (ci := 12) [] [(2, 188)] rfl qM_X12_isMoving dX12_rest_50 tw1563 rfl qs188 rfl rfl rfl rfl (l1) (fun r1 m1 p1 q1 => ?_)
  refine qx_if_eq (tgt := 101) dX12_rest_53 (by decide) (fun c2 => ?_) (fun c2 => ?_)
  · skip
    refine qx_iconst dX12_rest_101 rfl rfl ?_
    refine qx_istore_n (L' := [(2, 188), (0, v1), (0, v2), (0, (-1)), (4, 0)]) dX12_rest_102 rfl rfl rfl rfl ?_
    refine qx_iconst dX12_rest_103 rfl rfl ?_
    refine qx_istore (L' := [(2, 188), (0, v1), (0, v2), (0, (-1)), (0, 0)]) dX12_rest_104 rfl rfl rfl ?_
    exact l2 r1 m1 p1 q1 c2
  · skip
    refine q_iload_n dX12_rest_56 rfl rfl ?_
    refine q_aload_n dX12_rest_57 rfl rfl ?_
    refine qx_invV (ci := 12) [] [(2, 188), (0, v2)] rfl qM_X12_goOn dX12_rest_58 tw1567 rfl qs188 rfl rfl rfl rfl (l3 r1 m1 p1 q1 c2) (fun r3 m3 p3 q3 => ?_)
    refine qx_iadd dX12_rest_61 (o4 r1 m1 p1 q1 c2 r3 m3 p3 q3).1 ?_
    refine qx_istore_n (L' := [(2, 188), (0, v1), (0, (v2 + r3)), (4, 0), (4, 0)]) dX12_rest_62 rfl rfl rfl rfl ?_
    refine qx_iinc (L' := [(2, 188), (0, (v1 + 1)), (0, (v2 + r3)), (4, 0), (4, 0)]) dX12_rest_63 rfl rfl rfl (o4 r1 m1 p1 q1 c2 r3 m3 p3 q3).2 rfl ?_
    refine qx_iconst dX12_rest_66 rfl rfl ?_
    refine qx_istore_n (L' := [(2, 188), (0, (v1 + 1)), (0, (v2 + r3)), (0, 0), (4, 0)]) dX12_rest_67 rfl rfl rfl rfl ?_
    exact l5 r1 m1 p1 q1 c2 r3 m3 p3 q3
theorem bkX12_rest_68 {b : Int} {mem : qm} {Q : Int → qm → Prop}
    {v1 v2 v3 : Int}
    (l1 : (mem 188 0) ≤ v3 → q_At yX12_rest cX12_rest 5 (some .int) 2 0 0 (qK (q_rb b) Q) 49 [(2, 188), (0, v1), (0, v2), (4, 0), (4, 0)] [] (q_sh0, q_rb b, mem))
    (o2 : v3 < (mem 188 0) → (0 ≤ v3 ∧ v3 < 9))
    (o3 : v3 < (mem 188 0) → (mem 207 v3) ≤ 0 → q_in32 (v3 + 1))
    (l4 : v3 < (mem 188 0) → (mem 207 v3) ≤ 0 → q_At yX12_rest cX12_rest 5 (some .int) 2 0 0 (qK (q_rb b) Q) 68 [(2, 188), (0, v1), (0, v2), (0, (v3 + 1)), (4, 0)] [] (q_sh0, q_rb b, mem))
    (o5 : v3 < (mem 188 0) → 0 < (mem 207 v3) → q_in32 (v3 + 1))
    (l6 : v3 < (mem 188 0) → 0 < (mem 207 v3) → q_At yX12_rest cX12_rest 5 (some .int) 2 0 0 (qK (q_rb b) Q) 68 [(2, 188), (0, v1), (0, v2), (0, (v3 + 1)), (4, 0)] [] (q_sh0, q_rb b, (q_up mem 210 v3 v1))) :
    q_At yX12_rest cX12_rest 5 (some .int) 2 0 0 (qK (q_rb b) Q) 68 [(2, 188), (0, v1), (0, v2), (0, v3), (4, 0)] [] (q_sh0, q_rb b, mem) := by
  refine q_iload_n dX12_rest_68 rfl rfl ?_
  refine q_aload_n dX12_rest_69 rfl rfl ?_
  refine qx_getI (ci := 12) (k := 0) (v := (mem 188 0)) dX12_rest_70 rfl rfl rfl tw1183 rfl qs188 rfl ?_
  refine qx_icmp_ge (tgt := 98) dX12_rest_73 (by decide) (fun c1 => ?_) (fun c1 => ?_)
  · skip
    refine q_goto (tgt := 49) dX12_rest_98 (by decide) ?_
    refine q_kill (L' := [(2, 188), (0, v1), (0, v2), (4, 0), (4, 0)]) 3 rfl ?_
    exact l1 c1
  · skip
    refine q_aload_n dX12_rest_76 rfl rfl ?_
    refine q_getR (ci := 12) (k := 33) dX12_rest_77 rfl (by decide) rfl tw1216 (by decide) qs188 qw188_33 (by decide) ?_
    refine q_iload_n dX12_rest_80 rfl rfl ?_
    refine qx_iald (v := (mem 207 v3)) dX12_rest_81 qs207 (o2 c1) rfl ?_
    refine qx_if_le (tgt := 92) dX12_rest_82 (by decide) (fun c2 => ?_) (fun c2 => ?_)
    · skip
      refine qx_iinc (L' := [(2, 188), (0, v1), (0, v2), (0, (v3 + 1)), (4, 0)]) dX12_rest_92 rfl rfl rfl (o3 c1 c2) rfl ?_
      refine q_goto (tgt := 68) dX12_rest_95 (by decide) ?_
      exact l4 c1 c2
    · skip
      refine q_aload_n dX12_rest_85 rfl rfl ?_
      refine q_getR (ci := 12) (k := 37) dX12_rest_86 rfl (by decide) rfl tw1220 (by decide) qs188 qw188_37 (by decide) ?_
      refine q_iload_n dX12_rest_89 rfl rfl ?_
      refine q_iload_n dX12_rest_90 rfl rfl ?_
      refine q_iast dX12_rest_91 qs210 ((o2 c1)).1 ((o2 c1)).2 ?_
      refine qx_iinc (L' := [(2, 188), (0, v1), (0, v2), (0, (v3 + 1)), (4, 0)]) dX12_rest_92 rfl rfl rfl (o5 c1 c2) rfl ?_
      refine q_goto (tgt := 68) dX12_rest_95 (by decide) ?_
      exact l6 c1 c2
theorem bkX12_rest_106 {b : Int} {mem : qm} {Q : Int → qm → Prop}
    {v1 v2 v3 v4 : Int}
    (o1 : (mem 188 0) ≤ v4 → (0 ≤ (0 : Int) ∧ (0 : Int) < 16) ∧ (0 ≤ ((0 : Int) + 1) ∧ ((0 : Int) + 1) < 16))
    (l2 : (mem 188 0) ≤ v4 → Q v1 (q_up (q_up (q_up (q_up (q_up mem 188 16 0) 199 (0 : Int) v2) 188 16 ((0 : Int) + 1)) 199 ((0 : Int) + 1) v3) 188 16 (((0 : Int) + 1) + 1)))
    (o3 : v4 < (mem 188 0) → (0 ≤ v4 ∧ v4 < 9))
    (o4 : v4 < (mem 188 0) → (mem 207 v4) ≠ 0 → q_in32 (v4 + 1))
    (l5 : v4 < (mem 188 0) → (mem 207 v4) ≠ 0 → q_At yX12_rest cX12_rest 5 (some .int) 2 0 0 (qK (q_rb b) Q) 106 [(2, 188), (0, v1), (0, v2), (0, v3), (0, (v4 + 1))] [] (q_sh0, q_rb b, mem))
    (o6 : v4 < (mem 188 0) → (mem 207 v4) = 0 → (mem 210 v4) = (-1) → q_in32 (v4 + 1))
    (l7 : v4 < (mem 188 0) → (mem 207 v4) = 0 → (mem 210 v4) = (-1) → q_At yX12_rest cX12_rest 5 (some .int) 2 0 0 (qK (q_rb b) Q) 106 [(2, 188), (0, v1), (0, v2), (0, v3), (0, (v4 + 1))] [] (q_sh0, q_rb b, mem))
    (o8 : v4 < (mem 188 0) → (mem 207 v4) = 0 → (mem 210 v4) ≠ (-1) → v3 = (-1) → q_in32 (v4 + 1))
    (l9 : v4 < (mem 188 0) → (mem 207 v4) = 0 → (mem 210 v4) ≠ (-1) → v3 = (-1) → q_At yX12_rest cX12_rest 5 (some .int) 2 0 0 (qK (q_rb b) Q) 106 [(2, 188), (0, v1), (0, v2), (0, v4), (0, (v4 + 1))] [] (q_sh0, q_rb b, mem))
    (o10 : v4 < (mem 188 0) → (mem 207 v4) = 0 → (mem 210 v4) ≠ (-1) → v3 ≠ (-1) → (0 ≤ v3 ∧ v3 < 9))
    (o11 : v4 < (mem 188 0) → (mem 207 v4) = 0 → (mem 210 v4) ≠ (-1) → v3 ≠ (-1) → (mem 210 v4) ≤ (mem 210 v3) → q_in32 (v4 + 1))
    (l12 : v4 < (mem 188 0) → (mem 207 v4) = 0 → (mem 210 v4) ≠ (-1) → v3 ≠ (-1) → (mem 210 v4) ≤ (mem 210 v3) → q_At yX12_rest cX12_rest 5 (some .int) 2 0 0 (qK (q_rb b) Q) 106 [(2, 188), (0, v1), (0, v2), (0, v3), (0, (v4 + 1))] [] (q_sh0, q_rb b, mem))
    (o13 : v4 < (mem 188 0) → (mem 207 v4) = 0 → (mem 210 v4) ≠ (-1) → v3 ≠ (-1) → (mem 210 v3) < (mem 210 v4) → q_in32 (v4 + 1))
    (l14 : v4 < (mem 188 0) → (mem 207 v4) = 0 → (mem 210 v4) ≠ (-1) → v3 ≠ (-1) → (mem 210 v3) < (mem 210 v4) → q_At yX12_rest cX12_rest 5 (some .int) 2 0 0 (qK (q_rb b) Q) 106 [(2, 188), (0, v1), (0, v2), (0, v4), (0, (v4 + 1))] [] (q_sh0, q_rb b, mem)) :
    q_At yX12_rest cX12_rest 5 (some .int) 2 0 0 (qK (q_rb b) Q) 106 [(2, 188), (0, v1), (0, v2), (0, v3), (0, v4)] [] (q_sh0, q_rb b, mem) := by
  refine q_iload dX12_rest_106 rfl ?_
  refine q_aload_n dX12_rest_108 rfl rfl ?_
  refine qx_getI (ci := 12) (k := 0) (v := (mem 188 0)) dX12_rest_109 rfl rfl rfl tw1183 rfl qs188 rfl ?_
  refine qx_icmp_ge (tgt := 166) dX12_rest_112 (by decide) (fun c1 => ?_) (fun c1 => ?_)
  · skip
    refine q_aload_n dX12_rest_166 rfl rfl ?_
    refine qx_iconst dX12_rest_167 rfl rfl ?_
    refine q_putI (ci := 12) (k := 16) (kI := 16) (ty := .int) dX12_rest_168 rfl (by decide) rfl tw1199 rfl rfl rfl (fun _ => ⟨rfl, rfl⟩) qs188 ?_
    refine q_aload_n dX12_rest_171 rfl rfl ?_
    refine q_iload_n dX12_rest_172 rfl rfl ?_
    refine qx_invV (ci := 12) [(0, v2)] [(0, v2), (2, 188)] rfl qM_X12_tell dX12_rest_173 tw1509 rfl qs188 rfl rfl rfl rfl (spX12_tell (by first | exact (o1 c1).1 | (simp only [q_up, Int.reduceEq, false_and, true_and, and_true, and_false, ite_false, ite_true, if_true, if_false]; exact (o1 c1).1))) (fun r2 m2 p2 q2 => ?_)
    obtain rfl := p2
    refine q_aload_n dX12_rest_176 rfl rfl ?_
    refine q_iload_n dX12_rest_177 rfl rfl ?_
    refine qx_invV (ci := 12) [(0, v3)] [(0, v3), (2, 188)] rfl qM_X12_tell dX12_rest_178 tw1509 rfl qs188 rfl rfl rfl rfl (spX12_tell (by first | exact (o1 c1).2 | (simp only [q_up, Int.reduceEq, false_and, true_and, and_true, and_false, ite_false, ite_true, if_true, if_false]; exact (o1 c1).2))) (fun r3 m3 p3 q3 => ?_)
    obtain rfl := p3
    refine q_iload_n dX12_rest_181 rfl rfl ?_
    exact q_iret dX12_rest_182 (qK_i (l2 c1))
  · skip
    refine q_aload_n dX12_rest_115 rfl rfl ?_
    refine q_getR (ci := 12) (k := 33) dX12_rest_116 rfl (by decide) rfl tw1216 (by decide) qs188 qw188_33 (by decide) ?_
    refine q_iload dX12_rest_119 rfl ?_
    refine qx_iald (v := (mem 207 v4)) dX12_rest_121 qs207 (o3 c1) rfl ?_
    refine qx_if_ne (tgt := 160) dX12_rest_122 (by decide) (fun c4 => ?_) (fun c4 => ?_)
    · skip
      refine qx_iinc (L' := [(2, 188), (0, v1), (0, v2), (0, v3), (0, (v4 + 1))]) dX12_rest_160 rfl rfl rfl (o4 c1 c4) rfl ?_
      refine q_goto (tgt := 106) dX12_rest_163 (by decide) ?_
      exact l5 c1 c4
    · skip
      refine q_aload_n dX12_rest_125 rfl rfl ?_
      refine q_getR (ci := 12) (k := 37) dX12_rest_126 rfl (by decide) rfl tw1220 (by decide) qs188 qw188_37 (by decide) ?_
      refine q_iload dX12_rest_129 rfl ?_
      refine qx_iald (v := (mem 210 v4)) dX12_rest_131 qs210 (o3 c1) rfl ?_
      refine qx_iconst dX12_rest_132 rfl rfl ?_
      refine qx_icmp_eq (tgt := 160) dX12_rest_133 (by decide) (fun c5 => ?_) (fun c5 => ?_)
      · skip
        refine qx_iinc (L' := [(2, 188), (0, v1), (0, v2), (0, v3), (0, (v4 + 1))]) dX12_rest_160 rfl rfl rfl (o6 c1 c4 c5) rfl ?_
        refine q_goto (tgt := 106) dX12_rest_163 (by decide) ?_
        exact l7 c1 c4 c5
      · skip
        refine q_iload_n dX12_rest_136 rfl rfl ?_
        refine qx_iconst dX12_rest_137 rfl rfl ?_
        refine qx_icmp_eq (tgt := 157) dX12_rest_138 (by decide) (fun c6 => ?_) (fun c6 => ?_)
        · skip
          refine q_iload dX12_rest_157 rfl ?_
          refine qx_istore_n (L' := [(2, 188), (0, v1), (0, v2), (0, v4), (0, v4)]) dX12_rest_159 rfl rfl rfl rfl ?_
          refine qx_iinc (L' := [(2, 188), (0, v1), (0, v2), (0, v4), (0, (v4 + 1))]) dX12_rest_160 rfl rfl rfl (o8 c1 c4 c5 c6) rfl ?_
          refine q_goto (tgt := 106) dX12_rest_163 (by decide) ?_
          exact l9 c1 c4 c5 c6
        · skip
          refine q_aload_n dX12_rest_141 rfl rfl ?_
          refine q_getR (ci := 12) (k := 37) dX12_rest_142 rfl (by decide) rfl tw1220 (by decide) qs188 qw188_37 (by decide) ?_
          refine q_iload dX12_rest_145 rfl ?_
          refine qx_iald (v := (mem 210 v4)) dX12_rest_147 qs210 (o3 c1) rfl ?_
          refine q_aload_n dX12_rest_148 rfl rfl ?_
          refine q_getR (ci := 12) (k := 37) dX12_rest_149 rfl (by decide) rfl tw1220 (by decide) qs188 qw188_37 (by decide) ?_
          refine q_iload_n dX12_rest_152 rfl rfl ?_
          refine qx_iald (v := (mem 210 v3)) dX12_rest_153 qs210 (o10 c1 c4 c5 c6) rfl ?_
          refine qx_icmp_le (tgt := 160) dX12_rest_154 (by decide) (fun c7 => ?_) (fun c7 => ?_)
          · skip
            refine qx_iinc (L' := [(2, 188), (0, v1), (0, v2), (0, v3), (0, (v4 + 1))]) dX12_rest_160 rfl rfl rfl (o11 c1 c4 c5 c6 c7) rfl ?_
            refine q_goto (tgt := 106) dX12_rest_163 (by decide) ?_
            exact l12 c1 c4 c5 c6 c7
          · skip
            refine q_iload dX12_rest_157 rfl ?_
            refine qx_istore_n (L' := [(2, 188), (0, v1), (0, v2), (0, v4), (0, v4)]) dX12_rest_159 rfl rfl rfl rfl ?_
            refine qx_iinc (L' := [(2, 188), (0, v1), (0, v2), (0, v4), (0, (v4 + 1))]) dX12_rest_160 rfl rfl rfl (o13 c1 c4 c5 c6 c7) rfl ?_
            refine q_goto (tgt := 106) dX12_rest_163 (by decide) ?_
            exact l14 c1 c4 c5 c6 c7
theorem dX12_above_0 : decode cX12_above 0 = .ok (.aload_n 0, 1) := by decide +kernel
theorem dX12_above_1 : decode cX12_above 1 = .ok (.iconst 0, 1) := by decide +kernel
theorem dX12_above_2 : decode cX12_above 2 = .ok (.putfield 128, 3) := by decide +kernel
theorem dX12_above_5 : decode cX12_above 5 = .ok (.aload_n 0, 1) := by decide +kernel
theorem dX12_above_6 : decode cX12_above 6 = .ok (.iload_n 1, 1) := by decide +kernel
theorem dX12_above_7 : decode cX12_above 7 = .ok (.invokevirtual 225, 3) := by decide +kernel
theorem dX12_above_10 : decode cX12_above 10 = .ok (.ifCond .ne 5, 3) := by decide +kernel
theorem dX12_above_13 : decode cX12_above 13 = .ok (.iconst (-1), 1) := by decide +kernel
theorem dX12_above_14 : decode cX12_above 14 = .ok (.ireturn, 1) := by decide +kernel
theorem dX12_above_15 : decode cX12_above 15 = .ok (.iconst 0, 1) := by decide +kernel
theorem dX12_above_16 : decode cX12_above 16 = .ok (.istore_n 2, 1) := by decide +kernel
theorem dX12_above_17 : decode cX12_above 17 = .ok (.iconst 0, 1) := by decide +kernel
theorem dX12_above_18 : decode cX12_above 18 = .ok (.istore_n 3, 1) := by decide +kernel
theorem dX12_above_19 : decode cX12_above 19 = .ok (.iload_n 3, 1) := by decide +kernel
theorem dX12_above_20 : decode cX12_above 20 = .ok (.aload_n 0, 1) := by decide +kernel
theorem dX12_above_21 : decode cX12_above 21 = .ok (.getfield 134, 3) := by decide +kernel
theorem dX12_above_24 : decode cX12_above 24 = .ok (.if_icmp .ge 52, 3) := by decide +kernel
theorem dX12_above_27 : decode cX12_above 27 = .ok (.iload_n 3, 1) := by decide +kernel
theorem dX12_above_28 : decode cX12_above 28 = .ok (.istore 4, 2) := by decide +kernel
theorem dX12_above_30 : decode cX12_above 30 = .ok (.iload 4, 2) := by decide +kernel
theorem dX12_above_32 : decode cX12_above 32 = .ok (.iconst (-1), 1) := by decide +kernel
theorem dX12_above_33 : decode cX12_above 33 = .ok (.if_icmp .eq 21, 3) := by decide +kernel
theorem dX12_above_36 : decode cX12_above 36 = .ok (.iload 4, 2) := by decide +kernel
theorem dX12_above_38 : decode cX12_above 38 = .ok (.iload_n 1, 1) := by decide +kernel
theorem dX12_above_39 : decode cX12_above 39 = .ok (.if_icmp .eq 15, 3) := by decide +kernel
theorem dX12_above_42 : decode cX12_above 42 = .ok (.aload_n 0, 1) := by decide +kernel
theorem dX12_above_43 : decode cX12_above 43 = .ok (.getfield 25, 3) := by decide +kernel
theorem dX12_above_46 : decode cX12_above 46 = .ok (.iload 4, 2) := by decide +kernel
theorem dX12_above_48 : decode cX12_above 48 = .ok (.iaload, 1) := by decide +kernel
theorem dX12_above_49 : decode cX12_above 49 = .ok (.istore 4, 2) := by decide +kernel
theorem dX12_above_51 : decode cX12_above 51 = .ok (.goto (-21), 3) := by decide +kernel
theorem dX12_above_54 : decode cX12_above 54 = .ok (.iload_n 2, 1) := by decide +kernel
theorem dX12_above_55 : decode cX12_above 55 = .ok (.iload 4, 2) := by decide +kernel
theorem dX12_above_57 : decode cX12_above 57 = .ok (.iload_n 1, 1) := by decide +kernel
theorem dX12_above_58 : decode cX12_above 58 = .ok (.if_icmp .ne 9, 3) := by decide +kernel
theorem dX12_above_61 : decode cX12_above 61 = .ok (.iconst 1, 1) := by decide +kernel
theorem dX12_above_62 : decode cX12_above 62 = .ok (.iload_n 3, 1) := by decide +kernel
theorem dX12_above_63 : decode cX12_above 63 = .ok (.ishl, 1) := by decide +kernel
theorem dX12_above_64 : decode cX12_above 64 = .ok (.goto 4, 3) := by decide +kernel
theorem dX12_above_67 : decode cX12_above 67 = .ok (.iconst 0, 1) := by decide +kernel
theorem dX12_above_68 : decode cX12_above 68 = .ok (.ior, 1) := by decide +kernel
theorem dX12_above_69 : decode cX12_above 69 = .ok (.istore_n 2, 1) := by decide +kernel
theorem dX12_above_70 : decode cX12_above 70 = .ok (.iinc 3 1, 3) := by decide +kernel
theorem dX12_above_73 : decode cX12_above 73 = .ok (.goto (-54), 3) := by decide +kernel
theorem dX12_above_76 : decode cX12_above 76 = .ok (.iload_n 2, 1) := by decide +kernel
theorem dX12_above_77 : decode cX12_above 77 = .ok (.ireturn, 1) := by decide +kernel
theorem bkX12_above_0 {b : Int} {mem : qm} {Q : Int → qm → Prop}
    {j : Int}
    (o1 : q_in32 ((mem 188 0) - 1))
    (l2 : (0 ≤ j ∧ j ≤ (mem 188 0) - 1) → q_At yX12_above cX12_above 5 (some .int) 3 0 0 (qK (q_rb b) Q) 19 [(2, 188), (0, j), (0, 0), (0, 0), (4, 0)] [] (q_sh0, q_rb b, (q_up mem 188 17 0)))
    (l3 : ¬ (0 ≤ j ∧ j ≤ (mem 188 0) - 1) → Q (-1) (q_up mem 188 17 0)) :
    q_At yX12_above cX12_above 5 (some .int) 3 0 0 (qK (q_rb b) Q) 0 [(2, 188), (0, j), (4, 0), (4, 0), (4, 0)] [] (q_sh0, q_rb b, mem) := by
  refine q_aload_n dX12_above_0 rfl rfl ?_
  refine qx_iconst dX12_above_1 rfl rfl ?_
  refine q_putI (ci := 12) (k := 17) (kI := 17) (ty := .int) dX12_above_2 rfl (by decide) rfl tw1200 rfl rfl rfl (fun _ => ⟨rfl, rfl⟩) qs188 ?_
  refine q_aload_n dX12_above_5 rfl rfl ?_
  refine q_iload_n dX12_above_6 rfl rfl ?_
  refine qx_invV (ci := 12) [(0, j)] [(0, j), (2, 188)] rfl qM_X12_isJar dX12_above_7 tw1433 rfl qs188 rfl rfl rfl rfl (spX12_isJar (by first | exact (o1) | (simp only [q_up, Int.reduceEq, false_and, true_and, and_true, and_false, ite_false, ite_true, if_true, if_false]; exact (o1)))) (fun r1 m1 p1 q1 => ?_)
  obtain ⟨p1e, ⟨p1f, p1⟩ | ⟨p1f, p1⟩⟩ := p1
  · rw [p1e, p1f]
    simp only [q_up, Int.reduceEq, false_and, true_and, and_true, and_false, ite_false, ite_true, if_true, if_false] at p1
    refine qx_if_ne (tgt := 15) dX12_above_10 (by decide) (fun _ => ?_) (fun z => absurd z (by decide))
    refine qx_iconst dX12_above_15 rfl rfl ?_
    refine qx_istore_n (L' := [(2, 188), (0, j), (0, 0), (4, 0), (4, 0)]) dX12_above_16 rfl rfl rfl rfl ?_
    refine qx_iconst dX12_above_17 rfl rfl ?_
    refine qx_istore_n (L' := [(2, 188), (0, j), (0, 0), (0, 0), (4, 0)]) dX12_above_18 rfl rfl rfl rfl ?_
    exact l2 p1
  · rw [p1e, p1f]
    simp only [q_up, Int.reduceEq, false_and, true_and, and_true, and_false, ite_false, ite_true, if_true, if_false] at p1
    refine qx_if_ne (tgt := 15) dX12_above_10 (by decide) (fun z => absurd z (by decide)) (fun _ => ?_)
    refine qx_iconst dX12_above_13 rfl rfl ?_
    exact q_iret dX12_above_14 (qK_i (l3 p1))
theorem bkX12_above_19 {b : Int} {mem : qm} {Q : Int → qm → Prop}
    {j v2 v3 : Int}
    (l1 : (mem 188 0) ≤ v3 → Q v2 mem)
    (l2 : v3 < (mem 188 0) → q_At yX12_above cX12_above 5 (some .int) 3 0 0 (qK (q_rb b) Q) 30 [(2, 188), (0, j), (0, v2), (0, v3), (0, v3)] [] (q_sh0, q_rb b, mem)) :
    q_At yX12_above cX12_above 5 (some .int) 3 0 0 (qK (q_rb b) Q) 19 [(2, 188), (0, j), (0, v2), (0, v3), (4, 0)] [] (q_sh0, q_rb b, mem) := by
  refine q_iload_n dX12_above_19 rfl rfl ?_
  refine q_aload_n dX12_above_20 rfl rfl ?_
  refine qx_getI (ci := 12) (k := 0) (v := (mem 188 0)) dX12_above_21 rfl rfl rfl tw1183 rfl qs188 rfl ?_
  refine qx_icmp_ge (tgt := 76) dX12_above_24 (by decide) (fun c1 => ?_) (fun c1 => ?_)
  · skip
    refine q_iload_n dX12_above_76 rfl rfl ?_
    exact q_iret dX12_above_77 (qK_i (l1 c1))
  · skip
    refine q_iload_n dX12_above_27 rfl rfl ?_
    refine qx_istore (L' := [(2, 188), (0, j), (0, v2), (0, v3), (0, v3)]) dX12_above_28 rfl rfl rfl ?_
    exact l2 c1
theorem bkX12_above_30 {b : Int} {mem : qm} {Q : Int → qm → Prop}
    {j v2 v3 v4 : Int}
    (o1 : v4 = (-1) → v4 ≠ j → q_in32 (v3 + 1))
    (l2 : v4 = (-1) → v4 ≠ j → q_At yX12_above cX12_above 5 (some .int) 3 0 0 (qK (q_rb b) Q) 19 [(2, 188), (0, j), (0, (q_oior v2 0)), (0, (v3 + 1)), (4, 0)] [] (q_sh0, q_rb b, mem))
    (o3 : v4 = (-1) → v4 = j → q_in32 (v3 + 1))
    (l4 : v4 = (-1) → v4 = j → q_At yX12_above cX12_above 5 (some .int) 3 0 0 (qK (q_rb b) Q) 19 [(2, 188), (0, j), (0, (q_oior v2 (q_oishl 1 v3))), (0, (v3 + 1)), (4, 0)] [] (q_sh0, q_rb b, mem))
    (o5 : v4 ≠ (-1) → v4 = j → v4 ≠ j → q_in32 (v3 + 1))
    (l6 : v4 ≠ (-1) → v4 = j → v4 ≠ j → q_At yX12_above cX12_above 5 (some .int) 3 0 0 (qK (q_rb b) Q) 19 [(2, 188), (0, j), (0, (q_oior v2 0)), (0, (v3 + 1)), (4, 0)] [] (q_sh0, q_rb b, mem))
    (o7 : v4 ≠ (-1) → v4 = j → v4 = j → q_in32 (v3 + 1))
    (l8 : v4 ≠ (-1) → v4 = j → v4 = j → q_At yX12_above cX12_above 5 (some .int) 3 0 0 (qK (q_rb b) Q) 19 [(2, 188), (0, j), (0, (q_oior v2 (q_oishl 1 v3))), (0, (v3 + 1)), (4, 0)] [] (q_sh0, q_rb b, mem))
    (o9 : v4 ≠ (-1) → v4 ≠ j → (0 ≤ v4 ∧ v4 < 9))
    (l10 : v4 ≠ (-1) → v4 ≠ j → q_At yX12_above cX12_above 5 (some .int) 3 0 0 (qK (q_rb b) Q) 30 [(2, 188), (0, j), (0, v2), (0, v3), (0, (mem 194 v4))] [] (q_sh0, q_rb b, mem)) :
    q_At yX12_above cX12_above 5 (some .int) 3 0 0 (qK (q_rb b) Q) 30 [(2, 188), (0, j), (0, v2), (0, v3), (0, v4)] [] (q_sh0, q_rb b, mem) := by
  refine q_iload dX12_above_30 rfl ?_
  refine qx_iconst dX12_above_32 rfl rfl ?_
  refine qx_icmp_eq (tgt := 54) dX12_above_33 (by decide) (fun c1 => ?_) (fun c1 => ?_)
  · skip
    refine q_iload_n dX12_above_54 rfl rfl ?_
    refine q_iload dX12_above_55 rfl ?_
    refine q_iload_n dX12_above_57 rfl rfl ?_
    refine qx_icmp_ne (tgt := 67) dX12_above_58 (by decide) (fun c2 => ?_) (fun c2 => ?_)
    · skip
      refine qx_iconst dX12_above_67 rfl rfl ?_
      refine q_ior dX12_above_68 ?_
      refine qx_istore_n (L' := [(2, 188), (0, j), (0, (q_oior v2 0)), (0, v3), (0, v4)]) dX12_above_69 rfl rfl rfl rfl ?_
      refine qx_iinc (L' := [(2, 188), (0, j), (0, (q_oior v2 0)), (0, (v3 + 1)), (0, v4)]) dX12_above_70 rfl rfl rfl (o1 c1 c2) rfl ?_
      refine q_goto (tgt := 19) dX12_above_73 (by decide) ?_
      refine q_kill (L' := [(2, 188), (0, j), (0, (q_oior v2 0)), (0, (v3 + 1)), (4, 0)]) 4 rfl ?_
      exact l2 c1 c2
    · skip
      refine qx_iconst dX12_above_61 rfl rfl ?_
      refine q_iload_n dX12_above_62 rfl rfl ?_
      refine q_ishl dX12_above_63 ?_
      refine q_goto (tgt := 68) dX12_above_64 (by decide) ?_
      refine q_ior dX12_above_68 ?_
      refine qx_istore_n (L' := [(2, 188), (0, j), (0, (q_oior v2 (q_oishl 1 v3))), (0, v3), (0, v4)]) dX12_above_69 rfl rfl rfl rfl ?_
      refine qx_iinc (L' := [(2, 188), (0, j), (0, (q_oior v2 (q_oishl 1 v3))), (0, (v3 + 1)), (0, v4)]) dX12_above_70 rfl rfl rfl (o3 c1 c2) rfl ?_
      refine q_goto (tgt := 19) dX12_above_73 (by decide) ?_
      refine q_kill (L' := [(2, 188), (0, j), (0, (q_oior v2 (q_oishl 1 v3))), (0, (v3 + 1)), (4, 0)]) 4 rfl ?_
      exact l4 c1 c2
  · skip
    refine q_iload dX12_above_36 rfl ?_
    refine q_iload_n dX12_above_38 rfl rfl ?_
    refine qx_icmp_eq (tgt := 54) dX12_above_39 (by decide) (fun c3 => ?_) (fun c3 => ?_)
    · skip
      refine q_iload_n dX12_above_54 rfl rfl ?_
      refine q_iload dX12_above_55 rfl ?_
      refine q_iload_n dX12_above_57 rfl rfl ?_
      refine qx_icmp_ne (tgt := 67) dX12_above_58 (by decide) (fun c4 => ?_) (fun c4 => ?_)
      · skip
        refine qx_iconst dX12_above_67 rfl rfl ?_
        refine q_ior dX12_above_68 ?_
        refine qx_istore_n (L' := [(2, 188), (0, j), (0, (q_oior v2 0)), (0, v3), (0, v4)]) dX12_above_69 rfl rfl rfl rfl ?_
        refine qx_iinc (L' := [(2, 188), (0, j), (0, (q_oior v2 0)), (0, (v3 + 1)), (0, v4)]) dX12_above_70 rfl rfl rfl (o5 c1 c3 c4) rfl ?_
        refine q_goto (tgt := 19) dX12_above_73 (by decide) ?_
        refine q_kill (L' := [(2, 188), (0, j), (0, (q_oior v2 0)), (0, (v3 + 1)), (4, 0)]) 4 rfl ?_
        exact l6 c1 c3 c4
      · skip
        refine qx_iconst dX12_above_61 rfl rfl ?_
        refine q_iload_n dX12_above_62 rfl rfl ?_
        refine q_ishl dX12_above_63 ?_
        refine q_goto (tgt := 68) dX12_above_64 (by decide) ?_
        refine q_ior dX12_above_68 ?_
        refine qx_istore_n (L' := [(2, 188), (0, j), (0, (q_oior v2 (q_oishl 1 v3))), (0, v3), (0, v4)]) dX12_above_69 rfl rfl rfl rfl ?_
        refine qx_iinc (L' := [(2, 188), (0, j), (0, (q_oior v2 (q_oishl 1 v3))), (0, (v3 + 1)), (0, v4)]) dX12_above_70 rfl rfl rfl (o7 c1 c3 c4) rfl ?_
        refine q_goto (tgt := 19) dX12_above_73 (by decide) ?_
        refine q_kill (L' := [(2, 188), (0, j), (0, (q_oior v2 (q_oishl 1 v3))), (0, (v3 + 1)), (4, 0)]) 4 rfl ?_
        exact l8 c1 c3 c4
    · skip
      refine q_aload_n dX12_above_42 rfl rfl ?_
      refine q_getR (ci := 12) (k := 6) dX12_above_43 rfl (by decide) rfl tw1189 (by decide) qs188 qw188_6 (by decide) ?_
      refine q_iload dX12_above_46 rfl ?_
      refine qx_iald (v := (mem 194 v4)) dX12_above_48 qs194 (o9 c1 c3) rfl ?_
      refine qx_istore (L' := [(2, 188), (0, j), (0, v2), (0, v3), (0, (mem 194 v4))]) dX12_above_49 rfl rfl rfl ?_
      refine q_goto (tgt := 30) dX12_above_51 (by decide) ?_
      exact l10 c1 c3
theorem dX12_least_0 : decode cX12_least 0 = .ok (.aload_n 0, 1) := by decide +kernel
theorem dX12_least_1 : decode cX12_least 1 = .ok (.iconst 0, 1) := by decide +kernel
theorem dX12_least_2 : decode cX12_least 2 = .ok (.putfield 128, 3) := by decide +kernel
theorem dX12_least_5 : decode cX12_least 5 = .ok (.aload_n 0, 1) := by decide +kernel
theorem dX12_least_6 : decode cX12_least 6 = .ok (.iload_n 1, 1) := by decide +kernel
theorem dX12_least_7 : decode cX12_least 7 = .ok (.invokevirtual 225, 3) := by decide +kernel
theorem dX12_least_10 : decode cX12_least 10 = .ok (.ifCond .eq 29, 3) := by decide +kernel
theorem dX12_least_13 : decode cX12_least 13 = .ok (.aload_n 0, 1) := by decide +kernel
theorem dX12_least_14 : decode cX12_least 14 = .ok (.iload_n 2, 1) := by decide +kernel
theorem dX12_least_15 : decode cX12_least 15 = .ok (.invokevirtual 225, 3) := by decide +kernel
theorem dX12_least_18 : decode cX12_least 18 = .ok (.ifCond .eq 21, 3) := by decide +kernel
theorem dX12_least_21 : decode cX12_least 21 = .ok (.iload_n 3, 1) := by decide +kernel
theorem dX12_least_22 : decode cX12_least 22 = .ok (.iconst 0, 1) := by decide +kernel
theorem dX12_least_23 : decode cX12_least 23 = .ok (.bipush 60, 2) := by decide +kernel
theorem dX12_least_25 : decode cX12_least 25 = .ok (.invokestatic 137, 3) := by decide +kernel
theorem dX12_least_28 : decode cX12_least 28 = .ok (.ifCond .eq 11, 3) := by decide +kernel
theorem dX12_least_31 : decode cX12_least 31 = .ok (.iload 4, 2) := by decide +kernel
theorem dX12_least_33 : decode cX12_least 33 = .ok (.invokestatic 270, 3) := by decide +kernel
theorem dX12_least_36 : decode cX12_least 36 = .ok (.ifCond .ne 5, 3) := by decide +kernel
theorem dX12_least_39 : decode cX12_least 39 = .ok (.iconst (-1), 1) := by decide +kernel
theorem dX12_least_40 : decode cX12_least 40 = .ok (.ireturn, 1) := by decide +kernel
theorem dX12_least_41 : decode cX12_least 41 = .ok (.iconst 0, 1) := by decide +kernel
theorem dX12_least_42 : decode cX12_least 42 = .ok (.istore 5, 2) := by decide +kernel
theorem dX12_least_44 : decode cX12_least 44 = .ok (.iload 5, 2) := by decide +kernel
theorem dX12_least_46 : decode cX12_least 46 = .ok (.aload_n 0, 1) := by decide +kernel
theorem dX12_least_47 : decode cX12_least 47 = .ok (.getfield 9, 3) := by decide +kernel
theorem dX12_least_50 : decode cX12_least 50 = .ok (.iload_n 1, 1) := by decide +kernel
theorem dX12_least_51 : decode cX12_least 51 = .ok (.iaload, 1) := by decide +kernel
theorem dX12_least_52 : decode cX12_least 52 = .ok (.aload_n 0, 1) := by decide +kernel
theorem dX12_least_53 : decode cX12_least 53 = .ok (.getfield 13, 3) := by decide +kernel
theorem dX12_least_56 : decode cX12_least 56 = .ok (.iload_n 1, 1) := by decide +kernel
theorem dX12_least_57 : decode cX12_least 57 = .ok (.iaload, 1) := by decide +kernel
theorem dX12_least_58 : decode cX12_least 58 = .ok (.isub, 1) := by decide +kernel
theorem dX12_least_59 : decode cX12_least 59 = .ok (.if_icmp .gt 59, 3) := by decide +kernel
theorem dX12_least_62 : decode cX12_least 62 = .ok (.aload_n 0, 1) := by decide +kernel
theorem dX12_least_63 : decode cX12_least 63 = .ok (.invokevirtual 312, 3) := by decide +kernel
theorem dX12_least_66 : decode cX12_least 66 = .ok (.aload_n 0, 1) := by decide +kernel
theorem dX12_least_67 : decode cX12_least 67 = .ok (.getfield 72, 3) := by decide +kernel
theorem dX12_least_70 : decode cX12_least 70 = .ok (.iload_n 1, 1) := by decide +kernel
theorem dX12_least_71 : decode cX12_least 71 = .ok (.dup2, 1) := by decide +kernel
theorem dX12_least_72 : decode cX12_least 72 = .ok (.iaload, 1) := by decide +kernel
theorem dX12_least_73 : decode cX12_least 73 = .ok (.iload 5, 2) := by decide +kernel
theorem dX12_least_75 : decode cX12_least 75 = .ok (.iadd, 1) := by decide +kernel
theorem dX12_least_76 : decode cX12_least 76 = .ok (.iastore, 1) := by decide +kernel
theorem dX12_least_77 : decode cX12_least 77 = .ok (.aload_n 0, 1) := by decide +kernel
theorem dX12_least_78 : decode cX12_least 78 = .ok (.iload 4, 2) := by decide +kernel
theorem dX12_least_80 : decode cX12_least 80 = .ok (.invokevirtual 317, 3) := by decide +kernel
theorem dX12_least_83 : decode cX12_least 83 = .ok (.istore 6, 2) := by decide +kernel
theorem dX12_least_85 : decode cX12_least 85 = .ok (.aload_n 0, 1) := by decide +kernel
theorem dX12_least_86 : decode cX12_least 86 = .ok (.getfield 72, 3) := by decide +kernel
theorem dX12_least_89 : decode cX12_least 89 = .ok (.iload_n 2, 1) := by decide +kernel
theorem dX12_least_90 : decode cX12_least 90 = .ok (.iaload, 1) := by decide +kernel
theorem dX12_least_91 : decode cX12_least 91 = .ok (.iload_n 3, 1) := by decide +kernel
theorem dX12_least_92 : decode cX12_least 92 = .ok (.if_icmp .ge 6, 3) := by decide +kernel
theorem dX12_least_95 : decode cX12_least 95 = .ok (.goto 17, 3) := by decide +kernel
theorem dX12_least_98 : decode cX12_least 98 = .ok (.aload_n 0, 1) := by decide +kernel
theorem dX12_least_99 : decode cX12_least 99 = .ok (.iconst 0, 1) := by decide +kernel
theorem dX12_least_100 : decode cX12_least 100 = .ok (.putfield 131, 3) := by decide +kernel
theorem dX12_least_103 : decode cX12_least 103 = .ok (.aload_n 0, 1) := by decide +kernel
theorem dX12_least_104 : decode cX12_least 104 = .ok (.iload 6, 2) := by decide +kernel
theorem dX12_least_106 : decode cX12_least 106 = .ok (.invokevirtual 276, 3) := by decide +kernel
theorem dX12_least_109 : decode cX12_least 109 = .ok (.iload 5, 2) := by decide +kernel
theorem dX12_least_111 : decode cX12_least 111 = .ok (.ireturn, 1) := by decide +kernel
theorem dX12_least_112 : decode cX12_least 112 = .ok (.iinc 5 1, 3) := by decide +kernel
theorem dX12_least_115 : decode cX12_least 115 = .ok (.goto (-71), 3) := by decide +kernel
theorem dX12_least_118 : decode cX12_least 118 = .ok (.bipush (-2), 2) := by decide +kernel
theorem dX12_least_120 : decode cX12_least 120 = .ok (.ireturn, 1) := by decide +kernel
theorem bkX12_least_0 {b : Int} {mem : qm} {Q : Int → qm → Prop}
    {x j w v : Int}
    (o1 : q_in32 ((mem 188 0) - 1))
    (l2 : (0 ≤ x ∧ x ≤ (mem 188 0) - 1) → (0 ≤ j ∧ j ≤ (mem 188 0) - 1) → (0 ≤ w ∧ w ≤ 60) → (0 ≤ v ∧ v ≤ 200) → q_At yX12_least cX12_least 7 (some .int) 3 0 0 (qK (q_rb b) Q) 44 [(2, 188), (0, x), (0, j), (0, w), (0, v), (0, 0), (4, 0)] [] (q_sh0, q_rb b, (q_up mem 188 17 0)))
    (l3 : (0 ≤ x ∧ x ≤ (mem 188 0) - 1) → (0 ≤ j ∧ j ≤ (mem 188 0) - 1) → (0 ≤ w ∧ w ≤ 60) → ¬ (0 ≤ v ∧ v ≤ 200) → Q (-1) (q_up mem 188 17 0))
    (l4 : (0 ≤ x ∧ x ≤ (mem 188 0) - 1) → (0 ≤ j ∧ j ≤ (mem 188 0) - 1) → ¬ (0 ≤ w ∧ w ≤ 60) → Q (-1) (q_up mem 188 17 0))
    (l5 : (0 ≤ x ∧ x ≤ (mem 188 0) - 1) → ¬ (0 ≤ j ∧ j ≤ (mem 188 0) - 1) → Q (-1) (q_up mem 188 17 0))
    (l6 : ¬ (0 ≤ x ∧ x ≤ (mem 188 0) - 1) → Q (-1) (q_up mem 188 17 0)) :
    q_At yX12_least cX12_least 7 (some .int) 3 0 0 (qK (q_rb b) Q) 0 [(2, 188), (0, x), (0, j), (0, w), (0, v), (4, 0), (4, 0)] [] (q_sh0, q_rb b, mem) := by
  refine q_aload_n dX12_least_0 rfl rfl ?_
  refine qx_iconst dX12_least_1 rfl rfl ?_
  refine q_putI (ci := 12) (k := 17) (kI := 17) (ty := .int) dX12_least_2 rfl (by decide) rfl tw1200 rfl rfl rfl (fun _ => ⟨rfl, rfl⟩) qs188 ?_
  refine q_aload_n dX12_least_5 rfl rfl ?_
  refine q_iload_n dX12_least_6 rfl rfl ?_
  refine qx_invV (ci := 12) [(0, x)] [(0, x), (2, 188)] rfl qM_X12_isJar dX12_least_7 tw1433 rfl qs188 rfl rfl rfl rfl (spX12_isJar (by first | exact (o1) | (simp only [q_up, Int.reduceEq, false_and, true_and, and_true, and_false, ite_false, ite_true, if_true, if_false]; exact (o1)))) (fun r1 m1 p1 q1 => ?_)
  obtain ⟨p1e, ⟨p1f, p1⟩ | ⟨p1f, p1⟩⟩ := p1
  · rw [p1e, p1f]
    simp only [q_up, Int.reduceEq, false_and, true_and, and_true, and_false, ite_false, ite_true, if_true, if_false] at p1
    refine qx_if_eq (tgt := 39) dX12_least_10 (by decide) (fun z => absurd z (by decide)) (fun _ => ?_)
    refine q_aload_n dX12_least_13 rfl rfl ?_
    refine q_iload_n dX12_least_14 rfl rfl ?_
    refine qx_invV (ci := 12) [(0, j)] [(0, j), (2, 188)] rfl qM_X12_isJar dX12_least_15 tw1433 rfl qs188 rfl rfl rfl rfl (spX12_isJar (by first | exact (o1) | (simp only [q_up, Int.reduceEq, false_and, true_and, and_true, and_false, ite_false, ite_true, if_true, if_false]; exact (o1)))) (fun r2 m2 p2 q2 => ?_)
    obtain ⟨p2e, ⟨p2f, p2⟩ | ⟨p2f, p2⟩⟩ := p2
    · rw [p2e, p2f]
      simp only [q_up, Int.reduceEq, false_and, true_and, and_true, and_false, ite_false, ite_true, if_true, if_false] at p2
      refine qx_if_eq (tgt := 39) dX12_least_18 (by decide) (fun z => absurd z (by decide)) (fun _ => ?_)
      refine q_iload_n dX12_least_21 rfl rfl ?_
      refine qx_iconst dX12_least_22 rfl rfl ?_
      refine qx_bipush dX12_least_23 rfl rfl ?_
      refine qx_invS [(0, w), (0, 0), (0, 60)] [(0, 60), (0, 0), (0, w)] rfl qM_X12_in dX12_least_25 tw1362 rfl rfl rfl rfl (spX12_in) (fun r3 m3 p3 q3 => ?_)
      obtain ⟨p3e, ⟨p3f, p3⟩ | ⟨p3f, p3⟩⟩ := p3
      · rw [p3e, p3f]
        refine qx_if_eq (tgt := 39) dX12_least_28 (by decide) (fun z => absurd z (by decide)) (fun _ => ?_)
        refine q_iload dX12_least_31 rfl ?_
        refine qx_invS [(0, v)] [(0, v)] rfl qM_X12_isAhead dX12_least_33 tw1502 rfl rfl rfl rfl (spX12_isAhead) (fun r4 m4 p4 q4 => ?_)
        obtain ⟨p4e, ⟨p4f, p4⟩ | ⟨p4f, p4⟩⟩ := p4
        · rw [p4e, p4f]
          refine qx_if_ne (tgt := 41) dX12_least_36 (by decide) (fun _ => ?_) (fun z => absurd z (by decide))
          refine qx_iconst dX12_least_41 rfl rfl ?_
          refine qx_istore (L' := [(2, 188), (0, x), (0, j), (0, w), (0, v), (0, 0), (4, 0)]) dX12_least_42 rfl rfl rfl ?_
          exact l2 p1 p2 p3 p4
        · rw [p4e, p4f]
          refine qx_if_ne (tgt := 41) dX12_least_36 (by decide) (fun z => absurd z (by decide)) (fun _ => ?_)
          refine qx_iconst dX12_least_39 rfl rfl ?_
          exact q_iret dX12_least_40 (qK_i (l3 p1 p2 p3 p4))
      · rw [p3e, p3f]
        refine qx_if_eq (tgt := 39) dX12_least_28 (by decide) (fun _ => ?_) (fun z => absurd z (by decide))
        refine qx_iconst dX12_least_39 rfl rfl ?_
        exact q_iret dX12_least_40 (qK_i (l4 p1 p2 p3))
    · rw [p2e, p2f]
      simp only [q_up, Int.reduceEq, false_and, true_and, and_true, and_false, ite_false, ite_true, if_true, if_false] at p2
      refine qx_if_eq (tgt := 39) dX12_least_18 (by decide) (fun _ => ?_) (fun z => absurd z (by decide))
      refine qx_iconst dX12_least_39 rfl rfl ?_
      exact q_iret dX12_least_40 (qK_i (l5 p1 p2))
  · rw [p1e, p1f]
    simp only [q_up, Int.reduceEq, false_and, true_and, and_true, and_false, ite_false, ite_true, if_true, if_false] at p1
    refine qx_if_eq (tgt := 39) dX12_least_10 (by decide) (fun _ => ?_) (fun z => absurd z (by decide))
    refine qx_iconst dX12_least_39 rfl rfl ?_
    exact q_iret dX12_least_40 (qK_i (l6 p1))
theorem bkX12_least_44 {b : Int} {mem : qm} {Q : Int → qm → Prop}
    {x j w v v5 : Int}
    (o1 : (0 ≤ x ∧ x < 9) ∧ q_in32 ((mem 189 x) - (mem 190 x)))
    (l2 : ((mem 189 x) - (mem 190 x)) < v5 → Q (-2) mem)
    {P2 : Int → qm → Prop}
    (l3 : v5 ≤ ((mem 189 x) - (mem 190 x)) → q_Ev yX12_begin_ cX12_begin_ 2 none 1 0 0 [(2, 188)] (q_sh0, q_rb b, mem) (qK (q_rb b) (P2)))
    (o4 : v5 ≤ ((mem 189 x) - (mem 190 x)) → ∀ (r2 : Int), ∀ (m2 : qm), P2 r2 m2 → q_in32 r2 → q_in32 ((m2 207 x) + v5))
    {P3 : Int → qm → Int → qm → Prop}
    (l5 : v5 ≤ ((mem 189 x) - (mem 190 x)) → ∀ (r2 : Int), ∀ (m2 : qm), P2 r2 m2 → q_in32 r2 → q_Ev yX12_goOn_ cX12_goOn_ 4 (some .int) 2 0 0 [(2, 188), (0, v)] (q_sh0, q_rb b, (q_up m2 207 x ((m2 207 x) + v5))) (qK (q_rb b) (P3 r2 m2)))
    (o6 : v5 ≤ ((mem 189 x) - (mem 190 x)) → ∀ (r2 : Int), ∀ (m2 : qm), P2 r2 m2 → q_in32 r2 → ∀ (r3 : Int), ∀ (m3 : qm), P3 r2 m2 r3 m3 → q_in32 r3 → (0 ≤ j ∧ j < 9))
    (o7 : v5 ≤ ((mem 189 x) - (mem 190 x)) → ∀ (r2 : Int), ∀ (m2 : qm), P2 r2 m2 → q_in32 r2 → ∀ (r3 : Int), ∀ (m3 : qm), P3 r2 m2 r3 m3 → q_in32 r3 → w ≤ (m3 207 j) → (0 ≤ (0 : Int) ∧ (0 : Int) < 16))
    (l8 : v5 ≤ ((mem 189 x) - (mem 190 x)) → ∀ (r2 : Int), ∀ (m2 : qm), P2 r2 m2 → q_in32 r2 → ∀ (r3 : Int), ∀ (m3 : qm), P3 r2 m2 r3 m3 → q_in32 r3 → w ≤ (m3 207 j) → Q v5 (q_up (q_up (q_up m3 188 16 0) 199 (0 : Int) r3) 188 16 ((0 : Int) + 1)))
    (o9 : v5 ≤ ((mem 189 x) - (mem 190 x)) → ∀ (r2 : Int), ∀ (m2 : qm), P2 r2 m2 → q_in32 r2 → ∀ (r3 : Int), ∀ (m3 : qm), P3 r2 m2 r3 m3 → q_in32 r3 → (m3 207 j) < w → q_in32 (v5 + 1))
    (l10 : v5 ≤ ((mem 189 x) - (mem 190 x)) → ∀ (r2 : Int), ∀ (m2 : qm), P2 r2 m2 → q_in32 r2 → ∀ (r3 : Int), ∀ (m3 : qm), P3 r2 m2 r3 m3 → q_in32 r3 → (m3 207 j) < w → q_At yX12_least cX12_least 7 (some .int) 3 0 0 (qK (q_rb b) Q) 44 [(2, 188), (0, x), (0, j), (0, w), (0, v), (0, (v5 + 1)), (4, 0)] [] (q_sh0, q_rb b, m3)) :
    q_At yX12_least cX12_least 7 (some .int) 3 0 0 (qK (q_rb b) Q) 44 [(2, 188), (0, x), (0, j), (0, w), (0, v), (0, v5), (4, 0)] [] (q_sh0, q_rb b, mem) := by
  refine q_iload dX12_least_44 rfl ?_
  refine q_aload_n dX12_least_46 rfl rfl ?_
  refine q_getR (ci := 12) (k := 1) dX12_least_47 rfl (by decide) rfl tw1184 (by decide) qs188 qw188_1 (by decide) ?_
  refine q_iload_n dX12_least_50 rfl rfl ?_
  refine qx_iald (v := (mem 189 x)) dX12_least_51 qs189 (o1).1 rfl ?_
  refine q_aload_n dX12_least_52 rfl rfl ?_
  refine q_getR (ci := 12) (k := 2) dX12_least_53 rfl (by decide) rfl tw1185 (by decide) qs188 qw188_2 (by decide) ?_
  refine q_iload_n dX12_least_56 rfl rfl ?_
  refine qx_iald (v := (mem 190 x)) dX12_least_57 qs190 (o1).1 rfl ?_
  refine qx_isub dX12_least_58 (o1).2 ?_
  refine qx_icmp_gt (tgt := 118) dX12_least_59 (by decide) (fun c1 => ?_) (fun c1 => ?_)
  · skip
    refine qx_bipush dX12_least_118 rfl rfl ?_
    exact q_iret dX12_least_120 (qK_i (l2 c1))
  · skip
    refine q_aload_n dX12_least_62 rfl rfl ?_
    refine qx_invV (ci := 12) [] [(2, 188)] rfl qM_X12_begin_ dX12_least_63 tw1559 rfl qs188 rfl rfl rfl rfl (l3 c1) (fun r2 m2 p2 q2 => ?_)
    refine q_aload_n dX12_least_66 rfl rfl ?_
    refine q_getR (ci := 12) (k := 33) dX12_least_67 rfl (by decide) rfl tw1216 (by decide) qs188 qw188_33 (by decide) ?_
    refine q_iload_n dX12_least_70 rfl rfl ?_
    refine q_dup2 dX12_least_71 (fun h => by cases h) (fun h => by cases h) ?_
    refine qx_iald (v := (m2 207 x)) dX12_least_72 qs207 (o1).1 rfl ?_
    refine q_iload dX12_least_73 rfl ?_
    refine qx_iadd dX12_least_75 (o4 c1 r2 m2 p2 q2) ?_
    refine q_iast dX12_least_76 qs207 ((o1).1).1 ((o1).1).2 ?_
    refine q_aload_n dX12_least_77 rfl rfl ?_
    refine q_iload dX12_least_78 rfl ?_
    refine qx_invV (ci := 12) [(0, v)] [(0, v), (2, 188)] rfl qM_X12_goOn_ dX12_least_80 tw1583 rfl qs188 rfl rfl rfl rfl (l5 c1 r2 m2 p2 q2) (fun r3 m3 p3 q3 => ?_)
    refine qx_istore (L' := [(2, 188), (0, x), (0, j), (0, w), (0, v), (0, v5), (0, r3)]) dX12_least_83 rfl rfl rfl ?_
    refine q_aload_n dX12_least_85 rfl rfl ?_
    refine q_getR (ci := 12) (k := 33) dX12_least_86 rfl (by decide) rfl tw1216 (by decide) qs188 qw188_33 (by decide) ?_
    refine q_iload_n dX12_least_89 rfl rfl ?_
    refine qx_iald (v := (m3 207 j)) dX12_least_90 qs207 (o6 c1 r2 m2 p2 q2 r3 m3 p3 q3) rfl ?_
    refine q_iload_n dX12_least_91 rfl rfl ?_
    refine qx_icmp_ge (tgt := 98) dX12_least_92 (by decide) (fun c4 => ?_) (fun c4 => ?_)
    · skip
      refine q_aload_n dX12_least_98 rfl rfl ?_
      refine qx_iconst dX12_least_99 rfl rfl ?_
      refine q_putI (ci := 12) (k := 16) (kI := 16) (ty := .int) dX12_least_100 rfl (by decide) rfl tw1199 rfl rfl rfl (fun _ => ⟨rfl, rfl⟩) qs188 ?_
      refine q_aload_n dX12_least_103 rfl rfl ?_
      refine q_iload dX12_least_104 rfl ?_
      refine qx_invV (ci := 12) [(0, r3)] [(0, r3), (2, 188)] rfl qM_X12_tell dX12_least_106 tw1509 rfl qs188 rfl rfl rfl rfl (spX12_tell (by first | exact (o7 c1 r2 m2 p2 q2 r3 m3 p3 q3 c4) | (simp only [q_up, Int.reduceEq, false_and, true_and, and_true, and_false, ite_false, ite_true, if_true, if_false]; exact (o7 c1 r2 m2 p2 q2 r3 m3 p3 q3 c4)))) (fun r5 m5 p5 q5 => ?_)
      obtain rfl := p5
      refine q_iload dX12_least_109 rfl ?_
      exact q_iret dX12_least_111 (qK_i (l8 c1 r2 m2 p2 q2 r3 m3 p3 q3 c4))
    · skip
      refine q_goto (tgt := 112) dX12_least_95 (by decide) ?_
      refine qx_iinc (L' := [(2, 188), (0, x), (0, j), (0, w), (0, v), (0, (v5 + 1)), (0, r3)]) dX12_least_112 rfl rfl rfl (o9 c1 r2 m2 p2 q2 r3 m3 p3 q3 c4) rfl ?_
      refine q_goto (tgt := 44) dX12_least_115 (by decide) ?_
      refine q_kill (L' := [(2, 188), (0, x), (0, j), (0, w), (0, v), (0, (v5 + 1)), (4, 0)]) 6 rfl ?_
      exact l10 c1 r2 m2 p2 q2 r3 m3 p3 q3 c4
theorem dX12_has_0 : decode cX12_has 0 = .ok (.iload_n 0, 1) := by decide +kernel
theorem dX12_has_1 : decode cX12_has 1 = .ok (.iload_n 1, 1) := by decide +kernel
theorem dX12_has_2 : decode cX12_has 2 = .ok (.ishr, 1) := by decide +kernel
theorem dX12_has_3 : decode cX12_has 3 = .ok (.iconst 1, 1) := by decide +kernel
theorem dX12_has_4 : decode cX12_has 4 = .ok (.iand, 1) := by decide +kernel
theorem dX12_has_5 : decode cX12_has 5 = .ok (.iconst 1, 1) := by decide +kernel
theorem dX12_has_6 : decode cX12_has 6 = .ok (.if_icmp .ne 7, 3) := by decide +kernel
theorem dX12_has_9 : decode cX12_has 9 = .ok (.iconst 1, 1) := by decide +kernel
theorem dX12_has_10 : decode cX12_has 10 = .ok (.goto 4, 3) := by decide +kernel
theorem dX12_has_13 : decode cX12_has 13 = .ok (.iconst 0, 1) := by decide +kernel
theorem dX12_has_14 : decode cX12_has 14 = .ok (.ireturn, 1) := by decide +kernel
theorem bkX12_has_0 {b : Int} {mem : qm} {Q : Int → qm → Prop}
    {w j : Int}
    (l1 : (q_oiand (q_oishr w j) 1) ≠ 1 → Q 0 mem)
    (l2 : (q_oiand (q_oishr w j) 1) = 1 → Q 1 mem) :
    q_At yX12_has cX12_has 2 (some .boolean) 1 0 0 (qK (q_rb b) Q) 0 [(0, w), (0, j)] [] (q_sh0, q_rb b, mem) := by
  refine q_iload_n dX12_has_0 rfl rfl ?_
  refine q_iload_n dX12_has_1 rfl rfl ?_
  refine q_ishr dX12_has_2 ?_
  refine qx_iconst dX12_has_3 rfl rfl ?_
  refine q_iand dX12_has_4 ?_
  refine qx_iconst dX12_has_5 rfl rfl ?_
  refine qx_icmp_ne (tgt := 13) dX12_has_6 (by decide) (fun c1 => ?_) (fun c1 => ?_)
  · skip
    refine qx_iconst dX12_has_13 rfl rfl ?_
    exact q_zret dX12_has_14 (by decide) (qK_i (l1 c1))
  · skip
    refine qx_iconst dX12_has_9 rfl rfl ?_
    refine q_goto (tgt := 14) dX12_has_10 (by decide) ?_
    exact q_zret dX12_has_14 (by decide) (qK_i (l2 c1))
theorem dX12_goStopped_0 : decode cX12_goStopped 0 = .ok (.aload_n 0, 1) := by decide +kernel
theorem dX12_goStopped_1 : decode cX12_goStopped 1 = .ok (.invokevirtual 312, 3) := by decide +kernel
theorem dX12_goStopped_4 : decode cX12_goStopped 4 = .ok (.iconst 0, 1) := by decide +kernel
theorem dX12_goStopped_5 : decode cX12_goStopped 5 = .ok (.istore_n 3, 1) := by decide +kernel
theorem dX12_goStopped_6 : decode cX12_goStopped 6 = .ok (.iload_n 3, 1) := by decide +kernel
theorem dX12_goStopped_7 : decode cX12_goStopped 7 = .ok (.aload_n 0, 1) := by decide +kernel
theorem dX12_goStopped_8 : decode cX12_goStopped 8 = .ok (.getfield 134, 3) := by decide +kernel
theorem dX12_goStopped_11 : decode cX12_goStopped 11 = .ok (.if_icmp .ge 33, 3) := by decide +kernel
theorem dX12_goStopped_14 : decode cX12_goStopped 14 = .ok (.iload_n 1, 1) := by decide +kernel
theorem dX12_goStopped_15 : decode cX12_goStopped 15 = .ok (.iload_n 3, 1) := by decide +kernel
theorem dX12_goStopped_16 : decode cX12_goStopped 16 = .ok (.invokestatic 322, 3) := by decide +kernel
theorem dX12_goStopped_19 : decode cX12_goStopped 19 = .ok (.ifCond .eq 19, 3) := by decide +kernel
theorem dX12_goStopped_22 : decode cX12_goStopped 22 = .ok (.aload_n 0, 1) := by decide +kernel
theorem dX12_goStopped_23 : decode cX12_goStopped 23 = .ok (.getfield 75, 3) := by decide +kernel
theorem dX12_goStopped_26 : decode cX12_goStopped 26 = .ok (.iload_n 3, 1) := by decide +kernel
theorem dX12_goStopped_27 : decode cX12_goStopped 27 = .ok (.aload_n 0, 1) := by decide +kernel
theorem dX12_goStopped_28 : decode cX12_goStopped 28 = .ok (.getfield 75, 3) := by decide +kernel
theorem dX12_goStopped_31 : decode cX12_goStopped 31 = .ok (.iload_n 3, 1) := by decide +kernel
theorem dX12_goStopped_32 : decode cX12_goStopped 32 = .ok (.iaload, 1) := by decide +kernel
theorem dX12_goStopped_33 : decode cX12_goStopped 33 = .ok (.iload_n 2, 1) := by decide +kernel
theorem dX12_goStopped_34 : decode cX12_goStopped 34 = .ok (.invokestatic 240, 3) := by decide +kernel
theorem dX12_goStopped_37 : decode cX12_goStopped 37 = .ok (.iastore, 1) := by decide +kernel
theorem dX12_goStopped_38 : decode cX12_goStopped 38 = .ok (.iinc 3 1, 3) := by decide +kernel
theorem dX12_goStopped_41 : decode cX12_goStopped 41 = .ok (.goto (-35), 3) := by decide +kernel
theorem dX12_goStopped_44 : decode cX12_goStopped 44 = .ok (.aload_n 0, 1) := by decide +kernel
theorem dX12_goStopped_45 : decode cX12_goStopped 45 = .ok (.iload_n 2, 1) := by decide +kernel
theorem dX12_goStopped_46 : decode cX12_goStopped 46 = .ok (.invokevirtual 317, 3) := by decide +kernel
theorem dX12_goStopped_49 : decode cX12_goStopped 49 = .ok (.ireturn, 1) := by decide +kernel
theorem bkX12_goStopped_0 {b : Int} {mem : qm} {Q : Int → qm → Prop}
    {w v : Int}
    {P1 : Int → qm → Prop}
    (l1 : q_Ev yX12_begin_ cX12_begin_ 2 none 1 0 0 [(2, 188)] (q_sh0, q_rb b, mem) (qK (q_rb b) (P1)))
    (l2 : ∀ (r1 : Int), ∀ (m1 : qm), P1 r1 m1 → q_in32 r1 → q_At yX12_goStopped cX12_goStopped 4 (some .int) 3 0 0 (qK (q_rb b) Q) 6 [(2, 188), (0, w), (0, v), (0, 0)] [] (q_sh0, q_rb b, m1)) :
    q_At yX12_goStopped cX12_goStopped 4 (some .int) 3 0 0 (qK (q_rb b) Q) 0 [(2, 188), (0, w), (0, v), (4, 0)] [] (q_sh0, q_rb b, mem) := by
  refine q_aload_n dX12_goStopped_0 rfl rfl ?_
  refine qx_invV (ci := 12) [] [(2, 188)] rfl qM_X12_begin_ dX12_goStopped_1 tw1559 rfl qs188 rfl rfl rfl rfl (l1) (fun r1 m1 p1 q1 => ?_)
  refine qx_iconst dX12_goStopped_4 rfl rfl ?_
  refine qx_istore_n (L' := [(2, 188), (0, w), (0, v), (0, 0)]) dX12_goStopped_5 rfl rfl rfl rfl ?_
  exact l2 r1 m1 p1 q1
theorem bkX12_goStopped_6 {b : Int} {mem : qm} {Q : Int → qm → Prop}
    {w v v3 : Int}
    {P2 : Int → qm → Prop}
    (l1 : (mem 188 0) ≤ v3 → q_Ev yX12_goOn_ cX12_goOn_ 4 (some .int) 2 0 0 [(2, 188), (0, v)] (q_sh0, q_rb b, mem) (qK (q_rb b) (P2)))
    (l2 : (mem 188 0) ≤ v3 → ∀ (r2 : Int), ∀ (m2 : qm), P2 r2 m2 → q_in32 r2 → Q r2 m2)
    {P3 : Int → qm → Prop}
    (l3 : v3 < (mem 188 0) → q_Ev yX12_has cX12_has 2 (some .boolean) 1 0 0 [(0, w), (0, v3)] (q_sh0, q_rb b, mem) (qK (q_rb b) (P3)))
    (o4 : v3 < (mem 188 0) → ∀ (r3 : Int), ∀ (m3 : qm), P3 r3 m3 → q_in32 r3 → r3 = 0 → q_in32 (v3 + 1))
    (l5 : v3 < (mem 188 0) → ∀ (r3 : Int), ∀ (m3 : qm), P3 r3 m3 → q_in32 r3 → r3 = 0 → q_At yX12_goStopped cX12_goStopped 4 (some .int) 3 0 0 (qK (q_rb b) Q) 6 [(2, 188), (0, w), (0, v), (0, (v3 + 1))] [] (q_sh0, q_rb b, m3))
    (o6 : v3 < (mem 188 0) → ∀ (r3 : Int), ∀ (m3 : qm), P3 r3 m3 → q_in32 r3 → r3 ≠ 0 → (0 ≤ v3 ∧ v3 < 9) ∧ q_in32 (v3 + 1))
    (l7 : v3 < (mem 188 0) → ∀ (r3 : Int), ∀ (m3 : qm), P3 r3 m3 → q_in32 r3 → r3 ≠ 0 → q_At yX12_goStopped cX12_goStopped 4 (some .int) 3 0 0 (qK (q_rb b) Q) 6 [(2, 188), (0, w), (0, v), (0, (v3 + 1))] [] (q_sh0, q_rb b, (q_up m3 208 v3 (max (m3 208 v3) v)))) :
    q_At yX12_goStopped cX12_goStopped 4 (some .int) 3 0 0 (qK (q_rb b) Q) 6 [(2, 188), (0, w), (0, v), (0, v3)] [] (q_sh0, q_rb b, mem) := by
  refine q_iload_n dX12_goStopped_6 rfl rfl ?_
  refine q_aload_n dX12_goStopped_7 rfl rfl ?_
  refine qx_getI (ci := 12) (k := 0) (v := (mem 188 0)) dX12_goStopped_8 rfl rfl rfl tw1183 rfl qs188 rfl ?_
  refine qx_icmp_ge (tgt := 44) dX12_goStopped_11 (by decide) (fun c1 => ?_) (fun c1 => ?_)
  · skip
    refine q_aload_n dX12_goStopped_44 rfl rfl ?_
    refine q_iload_n dX12_goStopped_45 rfl rfl ?_
    refine qx_invV (ci := 12) [(0, v)] [(0, v), (2, 188)] rfl qM_X12_goOn_ dX12_goStopped_46 tw1583 rfl qs188 rfl rfl rfl rfl (l1 c1) (fun r2 m2 p2 q2 => ?_)
    exact q_iret dX12_goStopped_49 (qK_i (l2 c1 r2 m2 p2 q2))
  · skip
    refine q_iload_n dX12_goStopped_14 rfl rfl ?_
    refine q_iload_n dX12_goStopped_15 rfl rfl ?_
    refine qx_invS [(0, w), (0, v3)] [(0, v3), (0, w)] rfl qM_X12_has dX12_goStopped_16 tw1608 rfl rfl rfl rfl (l3 c1) (fun r3 m3 p3 q3 => ?_)
    refine qx_if_eq (tgt := 38) dX12_goStopped_19 (by decide) (fun c4 => ?_) (fun c4 => ?_)
    · skip
      refine qx_iinc (L' := [(2, 188), (0, w), (0, v), (0, (v3 + 1))]) dX12_goStopped_38 rfl rfl rfl (o4 c1 r3 m3 p3 q3 c4) rfl ?_
      refine q_goto (tgt := 6) dX12_goStopped_41 (by decide) ?_
      exact l5 c1 r3 m3 p3 q3 c4
    · skip
      refine q_aload_n dX12_goStopped_22 rfl rfl ?_
      refine q_getR (ci := 12) (k := 34) dX12_goStopped_23 rfl (by decide) rfl tw1217 (by decide) qs188 qw188_34 (by decide) ?_
      refine q_iload_n dX12_goStopped_26 rfl rfl ?_
      refine q_aload_n dX12_goStopped_27 rfl rfl ?_
      refine q_getR (ci := 12) (k := 34) dX12_goStopped_28 rfl (by decide) rfl tw1217 (by decide) qs188 qw188_34 (by decide) ?_
      refine q_iload_n dX12_goStopped_31 rfl rfl ?_
      refine qx_iald (v := (m3 208 v3)) dX12_goStopped_32 qs208 (o6 c1 r3 m3 p3 q3 c4).1 rfl ?_
      refine q_iload_n dX12_goStopped_33 rfl rfl ?_
      refine q_max dX12_goStopped_34 tw1458 tw597 tw15 tw598 (by decide) (Nat.le_of_ble_eq_true rfl) ?_
      refine q_iast dX12_goStopped_37 qs208 ((o6 c1 r3 m3 p3 q3 c4).1).1 ((o6 c1 r3 m3 p3 q3 c4).1).2 ?_
      refine qx_iinc (L' := [(2, 188), (0, w), (0, v), (0, (v3 + 1))]) dX12_goStopped_38 rfl rfl rfl (o6 c1 r3 m3 p3 q3 c4).2 rfl ?_
      refine q_goto (tgt := 6) dX12_goStopped_41 (by decide) ?_
      exact l7 c1 r3 m3 p3 q3 c4
theorem dX12_stops_0 : decode cX12_stops 0 = .ok (.aload_n 0, 1) := by decide +kernel
theorem dX12_stops_1 : decode cX12_stops 1 = .ok (.iconst 0, 1) := by decide +kernel
theorem dX12_stops_2 : decode cX12_stops 2 = .ok (.putfield 128, 3) := by decide +kernel
theorem dX12_stops_5 : decode cX12_stops 5 = .ok (.aload_n 0, 1) := by decide +kernel
theorem dX12_stops_6 : decode cX12_stops 6 = .ok (.iload_n 1, 1) := by decide +kernel
theorem dX12_stops_7 : decode cX12_stops 7 = .ok (.invokevirtual 225, 3) := by decide +kernel
theorem dX12_stops_10 : decode cX12_stops 10 = .ok (.ifCond .eq 20, 3) := by decide +kernel
theorem dX12_stops_13 : decode cX12_stops 13 = .ok (.iload_n 2, 1) := by decide +kernel
theorem dX12_stops_14 : decode cX12_stops 14 = .ok (.iconst 0, 1) := by decide +kernel
theorem dX12_stops_15 : decode cX12_stops 15 = .ok (.bipush 60, 2) := by decide +kernel
theorem dX12_stops_17 : decode cX12_stops 17 = .ok (.invokestatic 137, 3) := by decide +kernel
theorem dX12_stops_20 : decode cX12_stops 20 = .ok (.ifCond .eq 10, 3) := by decide +kernel
theorem dX12_stops_23 : decode cX12_stops 23 = .ok (.iload_n 3, 1) := by decide +kernel
theorem dX12_stops_24 : decode cX12_stops 24 = .ok (.invokestatic 270, 3) := by decide +kernel
theorem dX12_stops_27 : decode cX12_stops 27 = .ok (.ifCond .ne 5, 3) := by decide +kernel
theorem dX12_stops_30 : decode cX12_stops 30 = .ok (.iconst (-1), 1) := by decide +kernel
theorem dX12_stops_31 : decode cX12_stops 31 = .ok (.ireturn, 1) := by decide +kernel
theorem dX12_stops_32 : decode cX12_stops 32 = .ok (.iconst (-1), 1) := by decide +kernel
theorem dX12_stops_33 : decode cX12_stops 33 = .ok (.istore 4, 2) := by decide +kernel
theorem dX12_stops_35 : decode cX12_stops 35 = .ok (.iconst 0, 1) := by decide +kernel
theorem dX12_stops_36 : decode cX12_stops 36 = .ok (.istore 5, 2) := by decide +kernel
theorem dX12_stops_38 : decode cX12_stops 38 = .ok (.iconst 0, 1) := by decide +kernel
theorem dX12_stops_39 : decode cX12_stops 39 = .ok (.istore 6, 2) := by decide +kernel
theorem dX12_stops_41 : decode cX12_stops 41 = .ok (.iload 6, 2) := by decide +kernel
theorem dX12_stops_43 : decode cX12_stops 43 = .ok (.iconst 1, 1) := by decide +kernel
theorem dX12_stops_44 : decode cX12_stops 44 = .ok (.aload_n 0, 1) := by decide +kernel
theorem dX12_stops_45 : decode cX12_stops 45 = .ok (.getfield 134, 3) := by decide +kernel
theorem dX12_stops_48 : decode cX12_stops 48 = .ok (.ishl, 1) := by decide +kernel
theorem dX12_stops_49 : decode cX12_stops 49 = .ok (.if_icmp .ge 64, 3) := by decide +kernel
theorem dX12_stops_52 : decode cX12_stops 52 = .ok (.iload 4, 2) := by decide +kernel
theorem dX12_stops_54 : decode cX12_stops 54 = .ok (.iconst (-1), 1) := by decide +kernel
theorem dX12_stops_55 : decode cX12_stops 55 = .ok (.if_icmp .eq 19, 3) := by decide +kernel
theorem dX12_stops_58 : decode cX12_stops 58 = .ok (.iload 6, 2) := by decide +kernel
theorem dX12_stops_60 : decode cX12_stops 60 = .ok (.invokestatic 325, 3) := by decide +kernel
theorem dX12_stops_63 : decode cX12_stops 63 = .ok (.iload 4, 2) := by decide +kernel
theorem dX12_stops_65 : decode cX12_stops 65 = .ok (.invokestatic 325, 3) := by decide +kernel
theorem dX12_stops_68 : decode cX12_stops 68 = .ok (.if_icmp .lt 6, 3) := by decide +kernel
theorem dX12_stops_71 : decode cX12_stops 71 = .ok (.goto 36, 3) := by decide +kernel
theorem dX12_stops_74 : decode cX12_stops 74 = .ok (.aload_n 0, 1) := by decide +kernel
theorem dX12_stops_75 : decode cX12_stops 75 = .ok (.iload 6, 2) := by decide +kernel
theorem dX12_stops_77 : decode cX12_stops 77 = .ok (.iload_n 3, 1) := by decide +kernel
theorem dX12_stops_78 : decode cX12_stops 78 = .ok (.invokevirtual 330, 3) := by decide +kernel
theorem dX12_stops_81 : decode cX12_stops 81 = .ok (.pop, 1) := by decide +kernel
theorem dX12_stops_82 : decode cX12_stops 82 = .ok (.aload_n 0, 1) := by decide +kernel
theorem dX12_stops_83 : decode cX12_stops 83 = .ok (.getfield 72, 3) := by decide +kernel
theorem dX12_stops_86 : decode cX12_stops 86 = .ok (.iload_n 1, 1) := by decide +kernel
theorem dX12_stops_87 : decode cX12_stops 87 = .ok (.iaload, 1) := by decide +kernel
theorem dX12_stops_88 : decode cX12_stops 88 = .ok (.iload_n 2, 1) := by decide +kernel
theorem dX12_stops_89 : decode cX12_stops 89 = .ok (.if_icmp .ge 6, 3) := by decide +kernel
theorem dX12_stops_92 : decode cX12_stops 92 = .ok (.goto 15, 3) := by decide +kernel
theorem dX12_stops_95 : decode cX12_stops 95 = .ok (.iload 6, 2) := by decide +kernel
theorem dX12_stops_97 : decode cX12_stops 97 = .ok (.istore 4, 2) := by decide +kernel
theorem dX12_stops_99 : decode cX12_stops 99 = .ok (.aload_n 0, 1) := by decide +kernel
theorem dX12_stops_100 : decode cX12_stops 100 = .ok (.getfield 72, 3) := by decide +kernel
theorem dX12_stops_103 : decode cX12_stops 103 = .ok (.iload_n 1, 1) := by decide +kernel
theorem dX12_stops_104 : decode cX12_stops 104 = .ok (.iaload, 1) := by decide +kernel
theorem dX12_stops_105 : decode cX12_stops 105 = .ok (.istore 5, 2) := by decide +kernel
theorem dX12_stops_107 : decode cX12_stops 107 = .ok (.iinc 6 1, 3) := by decide +kernel
theorem dX12_stops_110 : decode cX12_stops 110 = .ok (.goto (-69), 3) := by decide +kernel
theorem dX12_stops_113 : decode cX12_stops 113 = .ok (.iload 4, 2) := by decide +kernel
theorem dX12_stops_115 : decode cX12_stops 115 = .ok (.iconst (-1), 1) := by decide +kernel
theorem dX12_stops_116 : decode cX12_stops 116 = .ok (.if_icmp .ne 6, 3) := by decide +kernel
theorem dX12_stops_119 : decode cX12_stops 119 = .ok (.bipush (-2), 2) := by decide +kernel
theorem dX12_stops_121 : decode cX12_stops 121 = .ok (.ireturn, 1) := by decide +kernel
theorem dX12_stops_122 : decode cX12_stops 122 = .ok (.aload_n 0, 1) := by decide +kernel
theorem dX12_stops_123 : decode cX12_stops 123 = .ok (.iconst 0, 1) := by decide +kernel
theorem dX12_stops_124 : decode cX12_stops 124 = .ok (.putfield 131, 3) := by decide +kernel
theorem dX12_stops_127 : decode cX12_stops 127 = .ok (.aload_n 0, 1) := by decide +kernel
theorem dX12_stops_128 : decode cX12_stops 128 = .ok (.iload 4, 2) := by decide +kernel
theorem dX12_stops_130 : decode cX12_stops 130 = .ok (.invokevirtual 276, 3) := by decide +kernel
theorem dX12_stops_133 : decode cX12_stops 133 = .ok (.aload_n 0, 1) := by decide +kernel
theorem dX12_stops_134 : decode cX12_stops 134 = .ok (.iload 5, 2) := by decide +kernel
theorem dX12_stops_136 : decode cX12_stops 136 = .ok (.invokevirtual 276, 3) := by decide +kernel
theorem dX12_stops_139 : decode cX12_stops 139 = .ok (.iload 4, 2) := by decide +kernel
theorem dX12_stops_141 : decode cX12_stops 141 = .ok (.invokestatic 325, 3) := by decide +kernel
theorem dX12_stops_144 : decode cX12_stops 144 = .ok (.ireturn, 1) := by decide +kernel
theorem bkX12_stops_0 {b : Int} {mem : qm} {Q : Int → qm → Prop}
    {j w v : Int}
    (o1 : q_in32 ((mem 188 0) - 1))
    (l2 : (0 ≤ j ∧ j ≤ (mem 188 0) - 1) → (0 ≤ w ∧ w ≤ 60) → (0 ≤ v ∧ v ≤ 200) → q_At yX12_stops cX12_stops 7 (some .int) 4 0 0 (qK (q_rb b) Q) 41 [(2, 188), (0, j), (0, w), (0, v), (0, (-1)), (0, 0), (0, 0)] [] (q_sh0, q_rb b, (q_up mem 188 17 0)))
    (l3 : (0 ≤ j ∧ j ≤ (mem 188 0) - 1) → (0 ≤ w ∧ w ≤ 60) → ¬ (0 ≤ v ∧ v ≤ 200) → Q (-1) (q_up mem 188 17 0))
    (l4 : (0 ≤ j ∧ j ≤ (mem 188 0) - 1) → ¬ (0 ≤ w ∧ w ≤ 60) → Q (-1) (q_up mem 188 17 0))
    (l5 : ¬ (0 ≤ j ∧ j ≤ (mem 188 0) - 1) → Q (-1) (q_up mem 188 17 0)) :
    q_At yX12_stops cX12_stops 7 (some .int) 4 0 0 (qK (q_rb b) Q) 0 [(2, 188), (0, j), (0, w), (0, v), (4, 0), (4, 0), (4, 0)] [] (q_sh0, q_rb b, mem) := by
  refine q_aload_n dX12_stops_0 rfl rfl ?_
  refine qx_iconst dX12_stops_1 rfl rfl ?_
  refine q_putI (ci := 12) (k := 17) (kI := 17) (ty := .int) dX12_stops_2 rfl (by decide) rfl tw1200 rfl rfl rfl (fun _ => ⟨rfl, rfl⟩) qs188 ?_
  refine q_aload_n dX12_stops_5 rfl rfl ?_
  refine q_iload_n dX12_stops_6 rfl rfl ?_
  refine qx_invV (ci := 12) [(0, j)] [(0, j), (2, 188)] rfl qM_X12_isJar dX12_stops_7 tw1433 rfl qs188 rfl rfl rfl rfl (spX12_isJar (by first | exact (o1) | (simp only [q_up, Int.reduceEq, false_and, true_and, and_true, and_false, ite_false, ite_true, if_true, if_false]; exact (o1)))) (fun r1 m1 p1 q1 => ?_)
  obtain ⟨p1e, ⟨p1f, p1⟩ | ⟨p1f, p1⟩⟩ := p1
  · rw [p1e, p1f]
    simp only [q_up, Int.reduceEq, false_and, true_and, and_true, and_false, ite_false, ite_true, if_true, if_false] at p1
    refine qx_if_eq (tgt := 30) dX12_stops_10 (by decide) (fun z => absurd z (by decide)) (fun _ => ?_)
    refine q_iload_n dX12_stops_13 rfl rfl ?_
    refine qx_iconst dX12_stops_14 rfl rfl ?_
    refine qx_bipush dX12_stops_15 rfl rfl ?_
    refine qx_invS [(0, w), (0, 0), (0, 60)] [(0, 60), (0, 0), (0, w)] rfl qM_X12_in dX12_stops_17 tw1362 rfl rfl rfl rfl (spX12_in) (fun r2 m2 p2 q2 => ?_)
    obtain ⟨p2e, ⟨p2f, p2⟩ | ⟨p2f, p2⟩⟩ := p2
    · rw [p2e, p2f]
      refine qx_if_eq (tgt := 30) dX12_stops_20 (by decide) (fun z => absurd z (by decide)) (fun _ => ?_)
      refine q_iload_n dX12_stops_23 rfl rfl ?_
      refine qx_invS [(0, v)] [(0, v)] rfl qM_X12_isAhead dX12_stops_24 tw1502 rfl rfl rfl rfl (spX12_isAhead) (fun r3 m3 p3 q3 => ?_)
      obtain ⟨p3e, ⟨p3f, p3⟩ | ⟨p3f, p3⟩⟩ := p3
      · rw [p3e, p3f]
        refine qx_if_ne (tgt := 32) dX12_stops_27 (by decide) (fun _ => ?_) (fun z => absurd z (by decide))
        refine qx_iconst dX12_stops_32 rfl rfl ?_
        refine qx_istore (L' := [(2, 188), (0, j), (0, w), (0, v), (0, (-1)), (4, 0), (4, 0)]) dX12_stops_33 rfl rfl rfl ?_
        refine qx_iconst dX12_stops_35 rfl rfl ?_
        refine qx_istore (L' := [(2, 188), (0, j), (0, w), (0, v), (0, (-1)), (0, 0), (4, 0)]) dX12_stops_36 rfl rfl rfl ?_
        refine qx_iconst dX12_stops_38 rfl rfl ?_
        refine qx_istore (L' := [(2, 188), (0, j), (0, w), (0, v), (0, (-1)), (0, 0), (0, 0)]) dX12_stops_39 rfl rfl rfl ?_
        exact l2 p1 p2 p3
      · rw [p3e, p3f]
        refine qx_if_ne (tgt := 32) dX12_stops_27 (by decide) (fun z => absurd z (by decide)) (fun _ => ?_)
        refine qx_iconst dX12_stops_30 rfl rfl ?_
        exact q_iret dX12_stops_31 (qK_i (l3 p1 p2 p3))
    · rw [p2e, p2f]
      refine qx_if_eq (tgt := 30) dX12_stops_20 (by decide) (fun _ => ?_) (fun z => absurd z (by decide))
      refine qx_iconst dX12_stops_30 rfl rfl ?_
      exact q_iret dX12_stops_31 (qK_i (l4 p1 p2))
  · rw [p1e, p1f]
    simp only [q_up, Int.reduceEq, false_and, true_and, and_true, and_false, ite_false, ite_true, if_true, if_false] at p1
    refine qx_if_eq (tgt := 30) dX12_stops_10 (by decide) (fun _ => ?_) (fun z => absurd z (by decide))
    refine qx_iconst dX12_stops_30 rfl rfl ?_
    exact q_iret dX12_stops_31 (qK_i (l5 p1))
theorem bkX12_stops_41 {b : Int} {mem : qm} {Q : Int → qm → Prop}
    {j w v v4 v5 v6 : Int}
    (o1 : (q_oishl 1 (mem 188 0)) ≤ v6 → v4 ≠ (-1) → (0 ≤ (0 : Int) ∧ (0 : Int) < 16) ∧ (0 ≤ ((0 : Int) + 1) ∧ ((0 : Int) + 1) < 16))
    {P5 : Int → qm → Prop}
    (l2 : (q_oishl 1 (mem 188 0)) ≤ v6 → v4 ≠ (-1) → q_Ev yJ6_bitCount_0f7a4 cJ6_bitCount_0f7a4 1 (some .int) 1 0 0 [(0, v4)] (q_sh0, q_rb b, (q_up (q_up (q_up (q_up (q_up mem 188 16 0) 199 (0 : Int) v4) 188 16 ((0 : Int) + 1)) 199 ((0 : Int) + 1) v5) 188 16 (((0 : Int) + 1) + 1))) (qK (q_rb b) (P5)))
    (l3 : (q_oishl 1 (mem 188 0)) ≤ v6 → v4 ≠ (-1) → ∀ (r5 : Int), ∀ (m5 : qm), P5 r5 m5 → q_in32 r5 → Q r5 m5)
    (l4 : (q_oishl 1 (mem 188 0)) ≤ v6 → v4 = (-1) → Q (-2) mem)
    {P7 : Int → qm → Prop}
    (l5 : v6 < (q_oishl 1 (mem 188 0)) → v4 = (-1) → q_Ev yX12_goStopped cX12_goStopped 4 (some .int) 3 0 0 [(2, 188), (0, v6), (0, v)] (q_sh0, q_rb b, mem) (qK (q_rb b) (P7)))
    (o6 : v6 < (q_oishl 1 (mem 188 0)) → v4 = (-1) → ∀ (r7 : Int), ∀ (m7 : qm), P7 r7 m7 → q_in32 r7 → (0 ≤ j ∧ j < 9))
    (o7 : v6 < (q_oishl 1 (mem 188 0)) → v4 = (-1) → ∀ (r7 : Int), ∀ (m7 : qm), P7 r7 m7 → q_in32 r7 → w ≤ (m7 207 j) → q_in32 (v6 + 1))
    (l8 : v6 < (q_oishl 1 (mem 188 0)) → v4 = (-1) → ∀ (r7 : Int), ∀ (m7 : qm), P7 r7 m7 → q_in32 r7 → w ≤ (m7 207 j) → q_At yX12_stops cX12_stops 7 (some .int) 4 0 0 (qK (q_rb b) Q) 41 [(2, 188), (0, j), (0, w), (0, v), (0, v6), (0, (m7 207 j)), (0, (v6 + 1))] [] (q_sh0, q_rb b, m7))
    (o9 : v6 < (q_oishl 1 (mem 188 0)) → v4 = (-1) → ∀ (r7 : Int), ∀ (m7 : qm), P7 r7 m7 → q_in32 r7 → (m7 207 j) < w → q_in32 (v6 + 1))
    (l10 : v6 < (q_oishl 1 (mem 188 0)) → v4 = (-1) → ∀ (r7 : Int), ∀ (m7 : qm), P7 r7 m7 → q_in32 r7 → (m7 207 j) < w → q_At yX12_stops cX12_stops 7 (some .int) 4 0 0 (qK (q_rb b) Q) 41 [(2, 188), (0, j), (0, w), (0, v), (0, v4), (0, v5), (0, (v6 + 1))] [] (q_sh0, q_rb b, m7))
    {P9 : Int → qm → Prop}
    (l11 : v6 < (q_oishl 1 (mem 188 0)) → v4 ≠ (-1) → q_Ev yJ6_bitCount_0f7a4 cJ6_bitCount_0f7a4 1 (some .int) 1 0 0 [(0, v6)] (q_sh0, q_rb b, mem) (qK (q_rb b) (P9)))
    {P10 : Int → qm → Int → qm → Prop}
    (l12 : v6 < (q_oishl 1 (mem 188 0)) → v4 ≠ (-1) → ∀ (r9 : Int), ∀ (m9 : qm), P9 r9 m9 → q_in32 r9 → q_Ev yJ6_bitCount_0f7a4 cJ6_bitCount_0f7a4 1 (some .int) 1 0 0 [(0, v4)] (q_sh0, q_rb b, m9) (qK (q_rb b) (P10 r9 m9)))
    {P12 : Int → qm → Int → qm → Int → qm → Prop}
    (l13 : v6 < (q_oishl 1 (mem 188 0)) → v4 ≠ (-1) → ∀ (r9 : Int), ∀ (m9 : qm), P9 r9 m9 → q_in32 r9 → ∀ (r10 : Int), ∀ (m10 : qm), P10 r9 m9 r10 m10 → q_in32 r10 → r9 < r10 → q_Ev yX12_goStopped cX12_goStopped 4 (some .int) 3 0 0 [(2, 188), (0, v6), (0, v)] (q_sh0, q_rb b, m10) (qK (q_rb b) (P12 r9 m9 r10 m10)))
    (o14 : v6 < (q_oishl 1 (mem 188 0)) → v4 ≠ (-1) → ∀ (r9 : Int), ∀ (m9 : qm), P9 r9 m9 → q_in32 r9 → ∀ (r10 : Int), ∀ (m10 : qm), P10 r9 m9 r10 m10 → q_in32 r10 → r9 < r10 → ∀ (r12 : Int), ∀ (m12 : qm), P12 r9 m9 r10 m10 r12 m12 → q_in32 r12 → (0 ≤ j ∧ j < 9))
    (o15 : v6 < (q_oishl 1 (mem 188 0)) → v4 ≠ (-1) → ∀ (r9 : Int), ∀ (m9 : qm), P9 r9 m9 → q_in32 r9 → ∀ (r10 : Int), ∀ (m10 : qm), P10 r9 m9 r10 m10 → q_in32 r10 → r9 < r10 → ∀ (r12 : Int), ∀ (m12 : qm), P12 r9 m9 r10 m10 r12 m12 → q_in32 r12 → w ≤ (m12 207 j) → q_in32 (v6 + 1))
    (l16 : v6 < (q_oishl 1 (mem 188 0)) → v4 ≠ (-1) → ∀ (r9 : Int), ∀ (m9 : qm), P9 r9 m9 → q_in32 r9 → ∀ (r10 : Int), ∀ (m10 : qm), P10 r9 m9 r10 m10 → q_in32 r10 → r9 < r10 → ∀ (r12 : Int), ∀ (m12 : qm), P12 r9 m9 r10 m10 r12 m12 → q_in32 r12 → w ≤ (m12 207 j) → q_At yX12_stops cX12_stops 7 (some .int) 4 0 0 (qK (q_rb b) Q) 41 [(2, 188), (0, j), (0, w), (0, v), (0, v6), (0, (m12 207 j)), (0, (v6 + 1))] [] (q_sh0, q_rb b, m12))
    (o17 : v6 < (q_oishl 1 (mem 188 0)) → v4 ≠ (-1) → ∀ (r9 : Int), ∀ (m9 : qm), P9 r9 m9 → q_in32 r9 → ∀ (r10 : Int), ∀ (m10 : qm), P10 r9 m9 r10 m10 → q_in32 r10 → r9 < r10 → ∀ (r12 : Int), ∀ (m12 : qm), P12 r9 m9 r10 m10 r12 m12 → q_in32 r12 → (m12 207 j) < w → q_in32 (v6 + 1))
    (l18 : v6 < (q_oishl 1 (mem 188 0)) → v4 ≠ (-1) → ∀ (r9 : Int), ∀ (m9 : qm), P9 r9 m9 → q_in32 r9 → ∀ (r10 : Int), ∀ (m10 : qm), P10 r9 m9 r10 m10 → q_in32 r10 → r9 < r10 → ∀ (r12 : Int), ∀ (m12 : qm), P12 r9 m9 r10 m10 r12 m12 → q_in32 r12 → (m12 207 j) < w → q_At yX12_stops cX12_stops 7 (some .int) 4 0 0 (qK (q_rb b) Q) 41 [(2, 188), (0, j), (0, w), (0, v), (0, v4), (0, v5), (0, (v6 + 1))] [] (q_sh0, q_rb b, m12))
    (o19 : v6 < (q_oishl 1 (mem 188 0)) → v4 ≠ (-1) → ∀ (r9 : Int), ∀ (m9 : qm), P9 r9 m9 → q_in32 r9 → ∀ (r10 : Int), ∀ (m10 : qm), P10 r9 m9 r10 m10 → q_in32 r10 → r10 ≤ r9 → q_in32 (v6 + 1))
    (l20 : v6 < (q_oishl 1 (mem 188 0)) → v4 ≠ (-1) → ∀ (r9 : Int), ∀ (m9 : qm), P9 r9 m9 → q_in32 r9 → ∀ (r10 : Int), ∀ (m10 : qm), P10 r9 m9 r10 m10 → q_in32 r10 → r10 ≤ r9 → q_At yX12_stops cX12_stops 7 (some .int) 4 0 0 (qK (q_rb b) Q) 41 [(2, 188), (0, j), (0, w), (0, v), (0, v4), (0, v5), (0, (v6 + 1))] [] (q_sh0, q_rb b, m10)) :
    q_At yX12_stops cX12_stops 7 (some .int) 4 0 0 (qK (q_rb b) Q) 41 [(2, 188), (0, j), (0, w), (0, v), (0, v4), (0, v5), (0, v6)] [] (q_sh0, q_rb b, mem) := by
  refine q_iload dX12_stops_41 rfl ?_
  refine qx_iconst dX12_stops_43 rfl rfl ?_
  refine q_aload_n dX12_stops_44 rfl rfl ?_
  refine qx_getI (ci := 12) (k := 0) (v := (mem 188 0)) dX12_stops_45 rfl rfl rfl tw1183 rfl qs188 rfl ?_
  refine q_ishl dX12_stops_48 ?_
  refine qx_icmp_ge (tgt := 113) dX12_stops_49 (by decide) (fun c1 => ?_) (fun c1 => ?_)
  · skip
    refine q_iload dX12_stops_113 rfl ?_
    refine qx_iconst dX12_stops_115 rfl rfl ?_
    refine qx_icmp_ne (tgt := 122) dX12_stops_116 (by decide) (fun c2 => ?_) (fun c2 => ?_)
    · skip
      refine q_aload_n dX12_stops_122 rfl rfl ?_
      refine qx_iconst dX12_stops_123 rfl rfl ?_
      refine q_putI (ci := 12) (k := 16) (kI := 16) (ty := .int) dX12_stops_124 rfl (by decide) rfl tw1199 rfl rfl rfl (fun _ => ⟨rfl, rfl⟩) qs188 ?_
      refine q_aload_n dX12_stops_127 rfl rfl ?_
      refine q_iload dX12_stops_128 rfl ?_
      refine qx_invV (ci := 12) [(0, v4)] [(0, v4), (2, 188)] rfl qM_X12_tell dX12_stops_130 tw1509 rfl qs188 rfl rfl rfl rfl (spX12_tell (by first | exact (o1 c1 c2).1 | (simp only [q_up, Int.reduceEq, false_and, true_and, and_true, and_false, ite_false, ite_true, if_true, if_false]; exact (o1 c1 c2).1))) (fun r3 m3 p3 q3 => ?_)
      obtain rfl := p3
      refine q_aload_n dX12_stops_133 rfl rfl ?_
      refine q_iload dX12_stops_134 rfl ?_
      refine qx_invV (ci := 12) [(0, v5)] [(0, v5), (2, 188)] rfl qM_X12_tell dX12_stops_136 tw1509 rfl qs188 rfl rfl rfl rfl (spX12_tell (by first | exact (o1 c1 c2).2 | (simp only [q_up, Int.reduceEq, false_and, true_and, and_true, and_false, ite_false, ite_true, if_true, if_false]; exact (o1 c1 c2).2))) (fun r4 m4 p4 q4 => ?_)
      obtain rfl := p4
      refine q_iload dX12_stops_139 rfl ?_
      refine qx_invS [(0, v4)] [(0, v4)] rfl qM_J6_bitCount_0f7a4 dX12_stops_141 tw1603 rfl rfl rfl rfl (l2 c1 c2) (fun r5 m5 p5 q5 => ?_)
      exact q_iret dX12_stops_144 (qK_i (l3 c1 c2 r5 m5 p5 q5))
    · skip
      refine qx_bipush dX12_stops_119 rfl rfl ?_
      exact q_iret dX12_stops_121 (qK_i (l4 c1 c2))
  · skip
    refine q_iload dX12_stops_52 rfl ?_
    refine qx_iconst dX12_stops_54 rfl rfl ?_
    refine qx_icmp_eq (tgt := 74) dX12_stops_55 (by decide) (fun c6 => ?_) (fun c6 => ?_)
    · skip
      refine q_aload_n dX12_stops_74 rfl rfl ?_
      refine q_iload dX12_stops_75 rfl ?_
      refine q_iload_n dX12_stops_77 rfl rfl ?_
      refine qx_invV (ci := 12) [(0, v6), (0, v)] [(0, v), (0, v6), (2, 188)] rfl qM_X12_goStopped dX12_stops_78 tw1604 rfl qs188 rfl rfl rfl rfl (l5 c1 c6) (fun r7 m7 p7 q7 => ?_)
      refine q_pop dX12_stops_81 (fun h => by cases h) ?_
      refine q_aload_n dX12_stops_82 rfl rfl ?_
      refine q_getR (ci := 12) (k := 33) dX12_stops_83 rfl (by decide) rfl tw1216 (by decide) qs188 qw188_33 (by decide) ?_
      refine q_iload_n dX12_stops_86 rfl rfl ?_
      refine qx_iald (v := (m7 207 j)) dX12_stops_87 qs207 (o6 c1 c6 r7 m7 p7 q7) rfl ?_
      refine q_iload_n dX12_stops_88 rfl rfl ?_
      refine qx_icmp_ge (tgt := 95) dX12_stops_89 (by decide) (fun c8 => ?_) (fun c8 => ?_)
      · skip
        refine q_iload dX12_stops_95 rfl ?_
        refine qx_istore (L' := [(2, 188), (0, j), (0, w), (0, v), (0, v6), (0, v5), (0, v6)]) dX12_stops_97 rfl rfl rfl ?_
        refine q_aload_n dX12_stops_99 rfl rfl ?_
        refine q_getR (ci := 12) (k := 33) dX12_stops_100 rfl (by decide) rfl tw1216 (by decide) qs188 qw188_33 (by decide) ?_
        refine q_iload_n dX12_stops_103 rfl rfl ?_
        refine qx_iald (v := (m7 207 j)) dX12_stops_104 qs207 (o6 c1 c6 r7 m7 p7 q7) rfl ?_
        refine qx_istore (L' := [(2, 188), (0, j), (0, w), (0, v), (0, v6), (0, (m7 207 j)), (0, v6)]) dX12_stops_105 rfl rfl rfl ?_
        refine qx_iinc (L' := [(2, 188), (0, j), (0, w), (0, v), (0, v6), (0, (m7 207 j)), (0, (v6 + 1))]) dX12_stops_107 rfl rfl rfl (o7 c1 c6 r7 m7 p7 q7 c8) rfl ?_
        refine q_goto (tgt := 41) dX12_stops_110 (by decide) ?_
        exact l8 c1 c6 r7 m7 p7 q7 c8
      · skip
        refine q_goto (tgt := 107) dX12_stops_92 (by decide) ?_
        refine qx_iinc (L' := [(2, 188), (0, j), (0, w), (0, v), (0, v4), (0, v5), (0, (v6 + 1))]) dX12_stops_107 rfl rfl rfl (o9 c1 c6 r7 m7 p7 q7 c8) rfl ?_
        refine q_goto (tgt := 41) dX12_stops_110 (by decide) ?_
        exact l10 c1 c6 r7 m7 p7 q7 c8
    · skip
      refine q_iload dX12_stops_58 rfl ?_
      refine qx_invS [(0, v6)] [(0, v6)] rfl qM_J6_bitCount_0f7a4 dX12_stops_60 tw1603 rfl rfl rfl rfl (l11 c1 c6) (fun r9 m9 p9 q9 => ?_)
      refine q_iload dX12_stops_63 rfl ?_
      refine qx_invS [(0, v4)] [(0, v4), (0, r9)] rfl qM_J6_bitCount_0f7a4 dX12_stops_65 tw1603 rfl rfl rfl rfl (l12 c1 c6 r9 m9 p9 q9) (fun r10 m10 p10 q10 => ?_)
      refine qx_icmp_lt (tgt := 74) dX12_stops_68 (by decide) (fun c11 => ?_) (fun c11 => ?_)
      · skip
        refine q_aload_n dX12_stops_74 rfl rfl ?_
        refine q_iload dX12_stops_75 rfl ?_
        refine q_iload_n dX12_stops_77 rfl rfl ?_
        refine qx_invV (ci := 12) [(0, v6), (0, v)] [(0, v), (0, v6), (2, 188)] rfl qM_X12_goStopped dX12_stops_78 tw1604 rfl qs188 rfl rfl rfl rfl (l13 c1 c6 r9 m9 p9 q9 r10 m10 p10 q10 c11) (fun r12 m12 p12 q12 => ?_)
        refine q_pop dX12_stops_81 (fun h => by cases h) ?_
        refine q_aload_n dX12_stops_82 rfl rfl ?_
        refine q_getR (ci := 12) (k := 33) dX12_stops_83 rfl (by decide) rfl tw1216 (by decide) qs188 qw188_33 (by decide) ?_
        refine q_iload_n dX12_stops_86 rfl rfl ?_
        refine qx_iald (v := (m12 207 j)) dX12_stops_87 qs207 (o14 c1 c6 r9 m9 p9 q9 r10 m10 p10 q10 c11 r12 m12 p12 q12) rfl ?_
        refine q_iload_n dX12_stops_88 rfl rfl ?_
        refine qx_icmp_ge (tgt := 95) dX12_stops_89 (by decide) (fun c13 => ?_) (fun c13 => ?_)
        · skip
          refine q_iload dX12_stops_95 rfl ?_
          refine qx_istore (L' := [(2, 188), (0, j), (0, w), (0, v), (0, v6), (0, v5), (0, v6)]) dX12_stops_97 rfl rfl rfl ?_
          refine q_aload_n dX12_stops_99 rfl rfl ?_
          refine q_getR (ci := 12) (k := 33) dX12_stops_100 rfl (by decide) rfl tw1216 (by decide) qs188 qw188_33 (by decide) ?_
          refine q_iload_n dX12_stops_103 rfl rfl ?_
          refine qx_iald (v := (m12 207 j)) dX12_stops_104 qs207 (o14 c1 c6 r9 m9 p9 q9 r10 m10 p10 q10 c11 r12 m12 p12 q12) rfl ?_
          refine qx_istore (L' := [(2, 188), (0, j), (0, w), (0, v), (0, v6), (0, (m12 207 j)), (0, v6)]) dX12_stops_105 rfl rfl rfl ?_
          refine qx_iinc (L' := [(2, 188), (0, j), (0, w), (0, v), (0, v6), (0, (m12 207 j)), (0, (v6 + 1))]) dX12_stops_107 rfl rfl rfl (o15 c1 c6 r9 m9 p9 q9 r10 m10 p10 q10 c11 r12 m12 p12 q12 c13) rfl ?_
          refine q_goto (tgt := 41) dX12_stops_110 (by decide) ?_
          exact l16 c1 c6 r9 m9 p9 q9 r10 m10 p10 q10 c11 r12 m12 p12 q12 c13
        · skip
          refine q_goto (tgt := 107) dX12_stops_92 (by decide) ?_
          refine qx_iinc (L' := [(2, 188), (0, j), (0, w), (0, v), (0, v4), (0, v5), (0, (v6 + 1))]) dX12_stops_107 rfl rfl rfl (o17 c1 c6 r9 m9 p9 q9 r10 m10 p10 q10 c11 r12 m12 p12 q12 c13) rfl ?_
          refine q_goto (tgt := 41) dX12_stops_110 (by decide) ?_
          exact l18 c1 c6 r9 m9 p9 q9 r10 m10 p10 q10 c11 r12 m12 p12 q12 c13
      · skip
        refine q_goto (tgt := 107) dX12_stops_71 (by decide) ?_
        refine qx_iinc (L' := [(2, 188), (0, j), (0, w), (0, v), (0, v4), (0, v5), (0, (v6 + 1))]) dX12_stops_107 rfl rfl rfl (o19 c1 c6 r9 m9 p9 q9 r10 m10 p10 q10 c11) rfl ?_
        refine q_goto (tgt := 41) dX12_stops_110 (by decide) ?_
        exact l20 c1 c6 r9 m9 p9 q9 r10 m10 p10 q10 c11
theorem dX12_saves_0 : decode cX12_saves 0 = .ok (.aload_n 0, 1) := by decide +kernel
theorem dX12_saves_1 : decode cX12_saves 1 = .ok (.iconst 0, 1) := by decide +kernel
theorem dX12_saves_2 : decode cX12_saves 2 = .ok (.putfield 128, 3) := by decide +kernel
theorem dX12_saves_5 : decode cX12_saves 5 = .ok (.iload_n 1, 1) := by decide +kernel
theorem dX12_saves_6 : decode cX12_saves 6 = .ok (.iconst 0, 1) := by decide +kernel
theorem dX12_saves_7 : decode cX12_saves 7 = .ok (.bipush 9, 2) := by decide +kernel
theorem dX12_saves_9 : decode cX12_saves 9 = .ok (.invokestatic 137, 3) := by decide +kernel
theorem dX12_saves_12 : decode cX12_saves 12 = .ok (.ifCond .eq 10, 3) := by decide +kernel
theorem dX12_saves_15 : decode cX12_saves 15 = .ok (.iload_n 2, 1) := by decide +kernel
theorem dX12_saves_16 : decode cX12_saves 16 = .ok (.invokestatic 270, 3) := by decide +kernel
theorem dX12_saves_19 : decode cX12_saves 19 = .ok (.ifCond .ne 5, 3) := by decide +kernel
theorem dX12_saves_22 : decode cX12_saves 22 = .ok (.iconst (-1), 1) := by decide +kernel
theorem dX12_saves_23 : decode cX12_saves 23 = .ok (.ireturn, 1) := by decide +kernel
theorem dX12_saves_24 : decode cX12_saves 24 = .ok (.iconst (-1), 1) := by decide +kernel
theorem dX12_saves_25 : decode cX12_saves 25 = .ok (.istore_n 3, 1) := by decide +kernel
theorem dX12_saves_26 : decode cX12_saves 26 = .ok (.iconst 0, 1) := by decide +kernel
theorem dX12_saves_27 : decode cX12_saves 27 = .ok (.istore 4, 2) := by decide +kernel
theorem dX12_saves_29 : decode cX12_saves 29 = .ok (.iconst 0, 1) := by decide +kernel
theorem dX12_saves_30 : decode cX12_saves 30 = .ok (.istore 5, 2) := by decide +kernel
theorem dX12_saves_32 : decode cX12_saves 32 = .ok (.iload 5, 2) := by decide +kernel
theorem dX12_saves_34 : decode cX12_saves 34 = .ok (.iconst 1, 1) := by decide +kernel
theorem dX12_saves_35 : decode cX12_saves 35 = .ok (.aload_n 0, 1) := by decide +kernel
theorem dX12_saves_36 : decode cX12_saves 36 = .ok (.getfield 134, 3) := by decide +kernel
theorem dX12_saves_39 : decode cX12_saves 39 = .ok (.ishl, 1) := by decide +kernel
theorem dX12_saves_40 : decode cX12_saves 40 = .ok (.if_icmp .ge 83, 3) := by decide +kernel
theorem dX12_saves_43 : decode cX12_saves 43 = .ok (.iload 5, 2) := by decide +kernel
theorem dX12_saves_45 : decode cX12_saves 45 = .ok (.invokestatic 325, 3) := by decide +kernel
theorem dX12_saves_48 : decode cX12_saves 48 = .ok (.iload_n 1, 1) := by decide +kernel
theorem dX12_saves_49 : decode cX12_saves 49 = .ok (.if_icmp .le 6, 3) := by decide +kernel
theorem dX12_saves_52 : decode cX12_saves 52 = .ok (.goto 65, 3) := by decide +kernel
theorem dX12_saves_55 : decode cX12_saves 55 = .ok (.aload_n 0, 1) := by decide +kernel
theorem dX12_saves_56 : decode cX12_saves 56 = .ok (.iload 5, 2) := by decide +kernel
theorem dX12_saves_58 : decode cX12_saves 58 = .ok (.iload_n 2, 1) := by decide +kernel
theorem dX12_saves_59 : decode cX12_saves 59 = .ok (.invokevirtual 330, 3) := by decide +kernel
theorem dX12_saves_62 : decode cX12_saves 62 = .ok (.istore 6, 2) := by decide +kernel
theorem dX12_saves_64 : decode cX12_saves 64 = .ok (.iload_n 3, 1) := by decide +kernel
theorem dX12_saves_65 : decode cX12_saves 65 = .ok (.iconst (-1), 1) := by decide +kernel
theorem dX12_saves_66 : decode cX12_saves 66 = .ok (.if_icmp .eq 29, 3) := by decide +kernel
theorem dX12_saves_69 : decode cX12_saves 69 = .ok (.iload 6, 2) := by decide +kernel
theorem dX12_saves_71 : decode cX12_saves 71 = .ok (.iload 4, 2) := by decide +kernel
theorem dX12_saves_73 : decode cX12_saves 73 = .ok (.if_icmp .lt 22, 3) := by decide +kernel
theorem dX12_saves_76 : decode cX12_saves 76 = .ok (.iload 6, 2) := by decide +kernel
theorem dX12_saves_78 : decode cX12_saves 78 = .ok (.iload 4, 2) := by decide +kernel
theorem dX12_saves_80 : decode cX12_saves 80 = .ok (.if_icmp .ne 19, 3) := by decide +kernel
theorem dX12_saves_83 : decode cX12_saves 83 = .ok (.iload 5, 2) := by decide +kernel
theorem dX12_saves_85 : decode cX12_saves 85 = .ok (.invokestatic 325, 3) := by decide +kernel
theorem dX12_saves_88 : decode cX12_saves 88 = .ok (.iload_n 3, 1) := by decide +kernel
theorem dX12_saves_89 : decode cX12_saves 89 = .ok (.invokestatic 325, 3) := by decide +kernel
theorem dX12_saves_92 : decode cX12_saves 92 = .ok (.if_icmp .ge 7, 3) := by decide +kernel
theorem dX12_saves_95 : decode cX12_saves 95 = .ok (.iconst 1, 1) := by decide +kernel
theorem dX12_saves_96 : decode cX12_saves 96 = .ok (.goto 4, 3) := by decide +kernel
theorem dX12_saves_99 : decode cX12_saves 99 = .ok (.iconst 0, 1) := by decide +kernel
theorem dX12_saves_100 : decode cX12_saves 100 = .ok (.istore 7, 2) := by decide +kernel
theorem dX12_saves_102 : decode cX12_saves 102 = .ok (.iload 7, 2) := by decide +kernel
theorem dX12_saves_104 : decode cX12_saves 104 = .ok (.ifCond .ne 6, 3) := by decide +kernel
theorem dX12_saves_107 : decode cX12_saves 107 = .ok (.goto 10, 3) := by decide +kernel
theorem dX12_saves_110 : decode cX12_saves 110 = .ok (.iload 5, 2) := by decide +kernel
theorem dX12_saves_112 : decode cX12_saves 112 = .ok (.istore_n 3, 1) := by decide +kernel
theorem dX12_saves_113 : decode cX12_saves 113 = .ok (.iload 6, 2) := by decide +kernel
theorem dX12_saves_115 : decode cX12_saves 115 = .ok (.istore 4, 2) := by decide +kernel
theorem dX12_saves_117 : decode cX12_saves 117 = .ok (.iinc 5 1, 3) := by decide +kernel
theorem dX12_saves_120 : decode cX12_saves 120 = .ok (.goto (-88), 3) := by decide +kernel
theorem dX12_saves_123 : decode cX12_saves 123 = .ok (.aload_n 0, 1) := by decide +kernel
theorem dX12_saves_124 : decode cX12_saves 124 = .ok (.iconst 0, 1) := by decide +kernel
theorem dX12_saves_125 : decode cX12_saves 125 = .ok (.putfield 131, 3) := by decide +kernel
theorem dX12_saves_128 : decode cX12_saves 128 = .ok (.aload_n 0, 1) := by decide +kernel
theorem dX12_saves_129 : decode cX12_saves 129 = .ok (.iload_n 3, 1) := by decide +kernel
theorem dX12_saves_130 : decode cX12_saves 130 = .ok (.invokevirtual 276, 3) := by decide +kernel
theorem dX12_saves_133 : decode cX12_saves 133 = .ok (.iload 4, 2) := by decide +kernel
theorem dX12_saves_135 : decode cX12_saves 135 = .ok (.ireturn, 1) := by decide +kernel
theorem bkX12_saves_0 {b : Int} {mem : qm} {Q : Int → qm → Prop}
    {w v : Int}
    (l1 : (0 ≤ w ∧ w ≤ 9) → (0 ≤ v ∧ v ≤ 200) → q_At yX12_saves cX12_saves 8 (some .int) 4 0 0 (qK (q_rb b) Q) 32 [(2, 188), (0, w), (0, v), (0, (-1)), (0, 0), (0, 0), (4, 0), (4, 0)] [] (q_sh0, q_rb b, (q_up mem 188 17 0)))
    (l2 : (0 ≤ w ∧ w ≤ 9) → ¬ (0 ≤ v ∧ v ≤ 200) → Q (-1) (q_up mem 188 17 0))
    (l3 : ¬ (0 ≤ w ∧ w ≤ 9) → Q (-1) (q_up mem 188 17 0)) :
    q_At yX12_saves cX12_saves 8 (some .int) 4 0 0 (qK (q_rb b) Q) 0 [(2, 188), (0, w), (0, v), (4, 0), (4, 0), (4, 0), (4, 0), (4, 0)] [] (q_sh0, q_rb b, mem) := by
  refine q_aload_n dX12_saves_0 rfl rfl ?_
  refine qx_iconst dX12_saves_1 rfl rfl ?_
  refine q_putI (ci := 12) (k := 17) (kI := 17) (ty := .int) dX12_saves_2 rfl (by decide) rfl tw1200 rfl rfl rfl (fun _ => ⟨rfl, rfl⟩) qs188 ?_
  refine q_iload_n dX12_saves_5 rfl rfl ?_
  refine qx_iconst dX12_saves_6 rfl rfl ?_
  refine qx_bipush dX12_saves_7 rfl rfl ?_
  refine qx_invS [(0, w), (0, 0), (0, 9)] [(0, 9), (0, 0), (0, w)] rfl qM_X12_in dX12_saves_9 tw1362 rfl rfl rfl rfl (spX12_in) (fun r1 m1 p1 q1 => ?_)
  obtain ⟨p1e, ⟨p1f, p1⟩ | ⟨p1f, p1⟩⟩ := p1
  · rw [p1e, p1f]
    refine qx_if_eq (tgt := 22) dX12_saves_12 (by decide) (fun z => absurd z (by decide)) (fun _ => ?_)
    refine q_iload_n dX12_saves_15 rfl rfl ?_
    refine qx_invS [(0, v)] [(0, v)] rfl qM_X12_isAhead dX12_saves_16 tw1502 rfl rfl rfl rfl (spX12_isAhead) (fun r2 m2 p2 q2 => ?_)
    obtain ⟨p2e, ⟨p2f, p2⟩ | ⟨p2f, p2⟩⟩ := p2
    · rw [p2e, p2f]
      refine qx_if_ne (tgt := 24) dX12_saves_19 (by decide) (fun _ => ?_) (fun z => absurd z (by decide))
      refine qx_iconst dX12_saves_24 rfl rfl ?_
      refine qx_istore_n (L' := [(2, 188), (0, w), (0, v), (0, (-1)), (4, 0), (4, 0), (4, 0), (4, 0)]) dX12_saves_25 rfl rfl rfl rfl ?_
      refine qx_iconst dX12_saves_26 rfl rfl ?_
      refine qx_istore (L' := [(2, 188), (0, w), (0, v), (0, (-1)), (0, 0), (4, 0), (4, 0), (4, 0)]) dX12_saves_27 rfl rfl rfl ?_
      refine qx_iconst dX12_saves_29 rfl rfl ?_
      refine qx_istore (L' := [(2, 188), (0, w), (0, v), (0, (-1)), (0, 0), (0, 0), (4, 0), (4, 0)]) dX12_saves_30 rfl rfl rfl ?_
      exact l1 p1 p2
    · rw [p2e, p2f]
      refine qx_if_ne (tgt := 24) dX12_saves_19 (by decide) (fun z => absurd z (by decide)) (fun _ => ?_)
      refine qx_iconst dX12_saves_22 rfl rfl ?_
      exact q_iret dX12_saves_23 (qK_i (l2 p1 p2))
  · rw [p1e, p1f]
    refine qx_if_eq (tgt := 22) dX12_saves_12 (by decide) (fun _ => ?_) (fun z => absurd z (by decide))
    refine qx_iconst dX12_saves_22 rfl rfl ?_
    exact q_iret dX12_saves_23 (qK_i (l3 p1))
theorem bkX12_saves_32 {b : Int} {mem : qm} {Q : Int → qm → Prop}
    {w v v3 v4 v5 : Int}
    (o1 : (q_oishl 1 (mem 188 0)) ≤ v5 → (0 ≤ (0 : Int) ∧ (0 : Int) < 16))
    (l2 : (q_oishl 1 (mem 188 0)) ≤ v5 → Q v4 (q_up (q_up (q_up mem 188 16 0) 199 (0 : Int) v3) 188 16 ((0 : Int) + 1)))
    {P3 : Int → qm → Prop}
    (l3 : v5 < (q_oishl 1 (mem 188 0)) → q_Ev yJ6_bitCount_0f7a4 cJ6_bitCount_0f7a4 1 (some .int) 1 0 0 [(0, v5)] (q_sh0, q_rb b, mem) (qK (q_rb b) (P3)))
    {P5 : Int → qm → Int → qm → Prop}
    (l4 : v5 < (q_oishl 1 (mem 188 0)) → ∀ (r3 : Int), ∀ (m3 : qm), P3 r3 m3 → q_in32 r3 → r3 ≤ w → q_Ev yX12_goStopped cX12_goStopped 4 (some .int) 3 0 0 [(2, 188), (0, v5), (0, v)] (q_sh0, q_rb b, m3) (qK (q_rb b) (P5 r3 m3)))
    (o5 : v5 < (q_oishl 1 (mem 188 0)) → ∀ (r3 : Int), ∀ (m3 : qm), P3 r3 m3 → q_in32 r3 → r3 ≤ w → ∀ (r5 : Int), ∀ (m5 : qm), P5 r3 m3 r5 m5 → q_in32 r5 → v3 = (-1) → q_in32 (v5 + 1))
    (l6 : v5 < (q_oishl 1 (mem 188 0)) → ∀ (r3 : Int), ∀ (m3 : qm), P3 r3 m3 → q_in32 r3 → r3 ≤ w → ∀ (r5 : Int), ∀ (m5 : qm), P5 r3 m3 r5 m5 → q_in32 r5 → v3 = (-1) → q_At yX12_saves cX12_saves 8 (some .int) 4 0 0 (qK (q_rb b) Q) 32 [(2, 188), (0, w), (0, v), (0, v5), (0, r5), (0, (v5 + 1)), (4, 0), (4, 0)] [] (q_sh0, q_rb b, m5))
    (o7 : v5 < (q_oishl 1 (mem 188 0)) → ∀ (r3 : Int), ∀ (m3 : qm), P3 r3 m3 → q_in32 r3 → r3 ≤ w → ∀ (r5 : Int), ∀ (m5 : qm), P5 r3 m3 r5 m5 → q_in32 r5 → v3 ≠ (-1) → r5 < v4 → q_in32 (v5 + 1))
    (l8 : v5 < (q_oishl 1 (mem 188 0)) → ∀ (r3 : Int), ∀ (m3 : qm), P3 r3 m3 → q_in32 r3 → r3 ≤ w → ∀ (r5 : Int), ∀ (m5 : qm), P5 r3 m3 r5 m5 → q_in32 r5 → v3 ≠ (-1) → r5 < v4 → q_At yX12_saves cX12_saves 8 (some .int) 4 0 0 (qK (q_rb b) Q) 32 [(2, 188), (0, w), (0, v), (0, v5), (0, r5), (0, (v5 + 1)), (4, 0), (4, 0)] [] (q_sh0, q_rb b, m5))
    (o9 : v5 < (q_oishl 1 (mem 188 0)) → ∀ (r3 : Int), ∀ (m3 : qm), P3 r3 m3 → q_in32 r3 → r3 ≤ w → ∀ (r5 : Int), ∀ (m5 : qm), P5 r3 m3 r5 m5 → q_in32 r5 → v3 ≠ (-1) → v4 ≤ r5 → r5 ≠ v4 → q_in32 (v5 + 1))
    (l10 : v5 < (q_oishl 1 (mem 188 0)) → ∀ (r3 : Int), ∀ (m3 : qm), P3 r3 m3 → q_in32 r3 → r3 ≤ w → ∀ (r5 : Int), ∀ (m5 : qm), P5 r3 m3 r5 m5 → q_in32 r5 → v3 ≠ (-1) → v4 ≤ r5 → r5 ≠ v4 → q_At yX12_saves cX12_saves 8 (some .int) 4 0 0 (qK (q_rb b) Q) 32 [(2, 188), (0, w), (0, v), (0, v3), (0, v4), (0, (v5 + 1)), (4, 0), (4, 0)] [] (q_sh0, q_rb b, m5))
    {P9 : Int → qm → Int → qm → Int → qm → Prop}
    (l11 : v5 < (q_oishl 1 (mem 188 0)) → ∀ (r3 : Int), ∀ (m3 : qm), P3 r3 m3 → q_in32 r3 → r3 ≤ w → ∀ (r5 : Int), ∀ (m5 : qm), P5 r3 m3 r5 m5 → q_in32 r5 → v3 ≠ (-1) → v4 ≤ r5 → r5 = v4 → q_Ev yJ6_bitCount_0f7a4 cJ6_bitCount_0f7a4 1 (some .int) 1 0 0 [(0, v5)] (q_sh0, q_rb b, m5) (qK (q_rb b) (P9 r3 m3 r5 m5)))
    {P10 : Int → qm → Int → qm → Int → qm → Int → qm → Prop}
    (l12 : v5 < (q_oishl 1 (mem 188 0)) → ∀ (r3 : Int), ∀ (m3 : qm), P3 r3 m3 → q_in32 r3 → r3 ≤ w → ∀ (r5 : Int), ∀ (m5 : qm), P5 r3 m3 r5 m5 → q_in32 r5 → v3 ≠ (-1) → v4 ≤ r5 → r5 = v4 → ∀ (r9 : Int), ∀ (m9 : qm), P9 r3 m3 r5 m5 r9 m9 → q_in32 r9 → q_Ev yJ6_bitCount_0f7a4 cJ6_bitCount_0f7a4 1 (some .int) 1 0 0 [(0, v3)] (q_sh0, q_rb b, m9) (qK (q_rb b) (P10 r3 m3 r5 m5 r9 m9)))
    (o13 : v5 < (q_oishl 1 (mem 188 0)) → ∀ (r3 : Int), ∀ (m3 : qm), P3 r3 m3 → q_in32 r3 → r3 ≤ w → ∀ (r5 : Int), ∀ (m5 : qm), P5 r3 m3 r5 m5 → q_in32 r5 → v3 ≠ (-1) → v4 ≤ r5 → r5 = v4 → ∀ (r9 : Int), ∀ (m9 : qm), P9 r3 m3 r5 m5 r9 m9 → q_in32 r9 → ∀ (r10 : Int), ∀ (m10 : qm), P10 r3 m3 r5 m5 r9 m9 r10 m10 → q_in32 r10 → r10 ≤ r9 → q_in32 (v5 + 1))
    (l14 : v5 < (q_oishl 1 (mem 188 0)) → ∀ (r3 : Int), ∀ (m3 : qm), P3 r3 m3 → q_in32 r3 → r3 ≤ w → ∀ (r5 : Int), ∀ (m5 : qm), P5 r3 m3 r5 m5 → q_in32 r5 → v3 ≠ (-1) → v4 ≤ r5 → r5 = v4 → ∀ (r9 : Int), ∀ (m9 : qm), P9 r3 m3 r5 m5 r9 m9 → q_in32 r9 → ∀ (r10 : Int), ∀ (m10 : qm), P10 r3 m3 r5 m5 r9 m9 r10 m10 → q_in32 r10 → r10 ≤ r9 → q_At yX12_saves cX12_saves 8 (some .int) 4 0 0 (qK (q_rb b) Q) 32 [(2, 188), (0, w), (0, v), (0, v3), (0, v4), (0, (v5 + 1)), (4, 0), (4, 0)] [] (q_sh0, q_rb b, m10))
    (o15 : v5 < (q_oishl 1 (mem 188 0)) → ∀ (r3 : Int), ∀ (m3 : qm), P3 r3 m3 → q_in32 r3 → r3 ≤ w → ∀ (r5 : Int), ∀ (m5 : qm), P5 r3 m3 r5 m5 → q_in32 r5 → v3 ≠ (-1) → v4 ≤ r5 → r5 = v4 → ∀ (r9 : Int), ∀ (m9 : qm), P9 r3 m3 r5 m5 r9 m9 → q_in32 r9 → ∀ (r10 : Int), ∀ (m10 : qm), P10 r3 m3 r5 m5 r9 m9 r10 m10 → q_in32 r10 → r9 < r10 → q_in32 (v5 + 1))
    (l16 : v5 < (q_oishl 1 (mem 188 0)) → ∀ (r3 : Int), ∀ (m3 : qm), P3 r3 m3 → q_in32 r3 → r3 ≤ w → ∀ (r5 : Int), ∀ (m5 : qm), P5 r3 m3 r5 m5 → q_in32 r5 → v3 ≠ (-1) → v4 ≤ r5 → r5 = v4 → ∀ (r9 : Int), ∀ (m9 : qm), P9 r3 m3 r5 m5 r9 m9 → q_in32 r9 → ∀ (r10 : Int), ∀ (m10 : qm), P10 r3 m3 r5 m5 r9 m9 r10 m10 → q_in32 r10 → r9 < r10 → q_At yX12_saves cX12_saves 8 (some .int) 4 0 0 (qK (q_rb b) Q) 32 [(2, 188), (0, w), (0, v), (0, v5), (0, r5), (0, (v5 + 1)), (4, 0), (4, 0)] [] (q_sh0, q_rb b, m10))
    (o17 : v5 < (q_oishl 1 (mem 188 0)) → ∀ (r3 : Int), ∀ (m3 : qm), P3 r3 m3 → q_in32 r3 → w < r3 → q_in32 (v5 + 1))
    (l18 : v5 < (q_oishl 1 (mem 188 0)) → ∀ (r3 : Int), ∀ (m3 : qm), P3 r3 m3 → q_in32 r3 → w < r3 → q_At yX12_saves cX12_saves 8 (some .int) 4 0 0 (qK (q_rb b) Q) 32 [(2, 188), (0, w), (0, v), (0, v3), (0, v4), (0, (v5 + 1)), (4, 0), (4, 0)] [] (q_sh0, q_rb b, m3)) :
    q_At yX12_saves cX12_saves 8 (some .int) 4 0 0 (qK (q_rb b) Q) 32 [(2, 188), (0, w), (0, v), (0, v3), (0, v4), (0, v5), (4, 0), (4, 0)] [] (q_sh0, q_rb b, mem) := by
  refine q_iload dX12_saves_32 rfl ?_
  refine qx_iconst dX12_saves_34 rfl rfl ?_
  refine q_aload_n dX12_saves_35 rfl rfl ?_
  refine qx_getI (ci := 12) (k := 0) (v := (mem 188 0)) dX12_saves_36 rfl rfl rfl tw1183 rfl qs188 rfl ?_
  refine q_ishl dX12_saves_39 ?_
  refine qx_icmp_ge (tgt := 123) dX12_saves_40 (by decide) (fun c1 => ?_) (fun c1 => ?_)
  · skip
    refine q_aload_n dX12_saves_123 rfl rfl ?_
    refine qx_iconst dX12_saves_124 rfl rfl ?_
    refine q_putI (ci := 12) (k := 16) (kI := 16) (ty := .int) dX12_saves_125 rfl (by decide) rfl tw1199 rfl rfl rfl (fun _ => ⟨rfl, rfl⟩) qs188 ?_
    refine q_aload_n dX12_saves_128 rfl rfl ?_
    refine q_iload_n dX12_saves_129 rfl rfl ?_
    refine qx_invV (ci := 12) [(0, v3)] [(0, v3), (2, 188)] rfl qM_X12_tell dX12_saves_130 tw1509 rfl qs188 rfl rfl rfl rfl (spX12_tell (by first | exact (o1 c1) | (simp only [q_up, Int.reduceEq, false_and, true_and, and_true, and_false, ite_false, ite_true, if_true, if_false]; exact (o1 c1)))) (fun r2 m2 p2 q2 => ?_)
    obtain rfl := p2
    refine q_iload dX12_saves_133 rfl ?_
    exact q_iret dX12_saves_135 (qK_i (l2 c1))
  · skip
    refine q_iload dX12_saves_43 rfl ?_
    refine qx_invS [(0, v5)] [(0, v5)] rfl qM_J6_bitCount_0f7a4 dX12_saves_45 tw1603 rfl rfl rfl rfl (l3 c1) (fun r3 m3 p3 q3 => ?_)
    refine q_iload_n dX12_saves_48 rfl rfl ?_
    refine qx_icmp_le (tgt := 55) dX12_saves_49 (by decide) (fun c4 => ?_) (fun c4 => ?_)
    · skip
      refine q_aload_n dX12_saves_55 rfl rfl ?_
      refine q_iload dX12_saves_56 rfl ?_
      refine q_iload_n dX12_saves_58 rfl rfl ?_
      refine qx_invV (ci := 12) [(0, v5), (0, v)] [(0, v), (0, v5), (2, 188)] rfl qM_X12_goStopped dX12_saves_59 tw1604 rfl qs188 rfl rfl rfl rfl (l4 c1 r3 m3 p3 q3 c4) (fun r5 m5 p5 q5 => ?_)
      refine qx_istore (L' := [(2, 188), (0, w), (0, v), (0, v3), (0, v4), (0, v5), (0, r5), (4, 0)]) dX12_saves_62 rfl rfl rfl ?_
      refine q_iload_n dX12_saves_64 rfl rfl ?_
      refine qx_iconst dX12_saves_65 rfl rfl ?_
      refine qx_icmp_eq (tgt := 95) dX12_saves_66 (by decide) (fun c6 => ?_) (fun c6 => ?_)
      · skip
        refine qx_iconst dX12_saves_95 rfl rfl ?_
        refine q_goto (tgt := 100) dX12_saves_96 (by decide) ?_
        refine qx_istore (L' := [(2, 188), (0, w), (0, v), (0, v3), (0, v4), (0, v5), (0, r5), (0, 1)]) dX12_saves_100 rfl rfl rfl ?_
        refine q_iload dX12_saves_102 rfl ?_
        refine qx_if_ne (tgt := 110) dX12_saves_104 (by decide) (fun _ => ?_) (fun z => absurd z (by decide))
        refine q_iload dX12_saves_110 rfl ?_
        refine qx_istore_n (L' := [(2, 188), (0, w), (0, v), (0, v5), (0, v4), (0, v5), (0, r5), (0, 1)]) dX12_saves_112 rfl rfl rfl rfl ?_
        refine q_iload dX12_saves_113 rfl ?_
        refine qx_istore (L' := [(2, 188), (0, w), (0, v), (0, v5), (0, r5), (0, v5), (0, r5), (0, 1)]) dX12_saves_115 rfl rfl rfl ?_
        refine qx_iinc (L' := [(2, 188), (0, w), (0, v), (0, v5), (0, r5), (0, (v5 + 1)), (0, r5), (0, 1)]) dX12_saves_117 rfl rfl rfl (o5 c1 r3 m3 p3 q3 c4 r5 m5 p5 q5 c6) rfl ?_
        refine q_goto (tgt := 32) dX12_saves_120 (by decide) ?_
        refine q_kill (L' := [(2, 188), (0, w), (0, v), (0, v5), (0, r5), (0, (v5 + 1)), (4, 0), (0, 1)]) 6 rfl ?_
        refine q_kill (L' := [(2, 188), (0, w), (0, v), (0, v5), (0, r5), (0, (v5 + 1)), (4, 0), (4, 0)]) 7 rfl ?_
        exact l6 c1 r3 m3 p3 q3 c4 r5 m5 p5 q5 c6
      · skip
        refine q_iload dX12_saves_69 rfl ?_
        refine q_iload dX12_saves_71 rfl ?_
        refine qx_icmp_lt (tgt := 95) dX12_saves_73 (by decide) (fun c7 => ?_) (fun c7 => ?_)
        · skip
          refine qx_iconst dX12_saves_95 rfl rfl ?_
          refine q_goto (tgt := 100) dX12_saves_96 (by decide) ?_
          refine qx_istore (L' := [(2, 188), (0, w), (0, v), (0, v3), (0, v4), (0, v5), (0, r5), (0, 1)]) dX12_saves_100 rfl rfl rfl ?_
          refine q_iload dX12_saves_102 rfl ?_
          refine qx_if_ne (tgt := 110) dX12_saves_104 (by decide) (fun _ => ?_) (fun z => absurd z (by decide))
          refine q_iload dX12_saves_110 rfl ?_
          refine qx_istore_n (L' := [(2, 188), (0, w), (0, v), (0, v5), (0, v4), (0, v5), (0, r5), (0, 1)]) dX12_saves_112 rfl rfl rfl rfl ?_
          refine q_iload dX12_saves_113 rfl ?_
          refine qx_istore (L' := [(2, 188), (0, w), (0, v), (0, v5), (0, r5), (0, v5), (0, r5), (0, 1)]) dX12_saves_115 rfl rfl rfl ?_
          refine qx_iinc (L' := [(2, 188), (0, w), (0, v), (0, v5), (0, r5), (0, (v5 + 1)), (0, r5), (0, 1)]) dX12_saves_117 rfl rfl rfl (o7 c1 r3 m3 p3 q3 c4 r5 m5 p5 q5 c6 c7) rfl ?_
          refine q_goto (tgt := 32) dX12_saves_120 (by decide) ?_
          refine q_kill (L' := [(2, 188), (0, w), (0, v), (0, v5), (0, r5), (0, (v5 + 1)), (4, 0), (0, 1)]) 6 rfl ?_
          refine q_kill (L' := [(2, 188), (0, w), (0, v), (0, v5), (0, r5), (0, (v5 + 1)), (4, 0), (4, 0)]) 7 rfl ?_
          exact l8 c1 r3 m3 p3 q3 c4 r5 m5 p5 q5 c6 c7
        · skip
          refine q_iload dX12_saves_76 rfl ?_
          refine q_iload dX12_saves_78 rfl ?_
          refine qx_icmp_ne (tgt := 99) dX12_saves_80 (by decide) (fun c8 => ?_) (fun c8 => ?_)
          · skip
            refine qx_iconst dX12_saves_99 rfl rfl ?_
            refine qx_istore (L' := [(2, 188), (0, w), (0, v), (0, v3), (0, v4), (0, v5), (0, r5), (0, 0)]) dX12_saves_100 rfl rfl rfl ?_
            refine q_iload dX12_saves_102 rfl ?_
            refine qx_if_ne (tgt := 110) dX12_saves_104 (by decide) (fun z => absurd z (by decide)) (fun _ => ?_)
            refine q_goto (tgt := 117) dX12_saves_107 (by decide) ?_
            refine qx_iinc (L' := [(2, 188), (0, w), (0, v), (0, v3), (0, v4), (0, (v5 + 1)), (0, r5), (0, 0)]) dX12_saves_117 rfl rfl rfl (o9 c1 r3 m3 p3 q3 c4 r5 m5 p5 q5 c6 c7 c8) rfl ?_
            refine q_goto (tgt := 32) dX12_saves_120 (by decide) ?_
            refine q_kill (L' := [(2, 188), (0, w), (0, v), (0, v3), (0, v4), (0, (v5 + 1)), (4, 0), (0, 0)]) 6 rfl ?_
            refine q_kill (L' := [(2, 188), (0, w), (0, v), (0, v3), (0, v4), (0, (v5 + 1)), (4, 0), (4, 0)]) 7 rfl ?_
            exact l10 c1 r3 m3 p3 q3 c4 r5 m5 p5 q5 c6 c7 c8
          · skip
            refine q_iload dX12_saves_83 rfl ?_
            refine qx_invS [(0, v5)] [(0, v5)] rfl qM_J6_bitCount_0f7a4 dX12_saves_85 tw1603 rfl rfl rfl rfl (l11 c1 r3 m3 p3 q3 c4 r5 m5 p5 q5 c6 c7 c8) (fun r9 m9 p9 q9 => ?_)
            refine q_iload_n dX12_saves_88 rfl rfl ?_
            refine qx_invS [(0, v3)] [(0, v3), (0, r9)] rfl qM_J6_bitCount_0f7a4 dX12_saves_89 tw1603 rfl rfl rfl rfl (l12 c1 r3 m3 p3 q3 c4 r5 m5 p5 q5 c6 c7 c8 r9 m9 p9 q9) (fun r10 m10 p10 q10 => ?_)
            refine qx_icmp_ge (tgt := 99) dX12_saves_92 (by decide) (fun c11 => ?_) (fun c11 => ?_)
            · skip
              refine qx_iconst dX12_saves_99 rfl rfl ?_
              refine qx_istore (L' := [(2, 188), (0, w), (0, v), (0, v3), (0, v4), (0, v5), (0, r5), (0, 0)]) dX12_saves_100 rfl rfl rfl ?_
              refine q_iload dX12_saves_102 rfl ?_
              refine qx_if_ne (tgt := 110) dX12_saves_104 (by decide) (fun z => absurd z (by decide)) (fun _ => ?_)
              refine q_goto (tgt := 117) dX12_saves_107 (by decide) ?_
              refine qx_iinc (L' := [(2, 188), (0, w), (0, v), (0, v3), (0, v4), (0, (v5 + 1)), (0, r5), (0, 0)]) dX12_saves_117 rfl rfl rfl (o13 c1 r3 m3 p3 q3 c4 r5 m5 p5 q5 c6 c7 c8 r9 m9 p9 q9 r10 m10 p10 q10 c11) rfl ?_
              refine q_goto (tgt := 32) dX12_saves_120 (by decide) ?_
              refine q_kill (L' := [(2, 188), (0, w), (0, v), (0, v3), (0, v4), (0, (v5 + 1)), (4, 0), (0, 0)]) 6 rfl ?_
              refine q_kill (L' := [(2, 188), (0, w), (0, v), (0, v3), (0, v4), (0, (v5 + 1)), (4, 0), (4, 0)]) 7 rfl ?_
              exact l14 c1 r3 m3 p3 q3 c4 r5 m5 p5 q5 c6 c7 c8 r9 m9 p9 q9 r10 m10 p10 q10 c11
            · skip
              refine qx_iconst dX12_saves_95 rfl rfl ?_
              refine q_goto (tgt := 100) dX12_saves_96 (by decide) ?_
              refine qx_istore (L' := [(2, 188), (0, w), (0, v), (0, v3), (0, v4), (0, v5), (0, r5), (0, 1)]) dX12_saves_100 rfl rfl rfl ?_
              refine q_iload dX12_saves_102 rfl ?_
              refine qx_if_ne (tgt := 110) dX12_saves_104 (by decide) (fun _ => ?_) (fun z => absurd z (by decide))
              refine q_iload dX12_saves_110 rfl ?_
              refine qx_istore_n (L' := [(2, 188), (0, w), (0, v), (0, v5), (0, v4), (0, v5), (0, r5), (0, 1)]) dX12_saves_112 rfl rfl rfl rfl ?_
              refine q_iload dX12_saves_113 rfl ?_
              refine qx_istore (L' := [(2, 188), (0, w), (0, v), (0, v5), (0, r5), (0, v5), (0, r5), (0, 1)]) dX12_saves_115 rfl rfl rfl ?_
              refine qx_iinc (L' := [(2, 188), (0, w), (0, v), (0, v5), (0, r5), (0, (v5 + 1)), (0, r5), (0, 1)]) dX12_saves_117 rfl rfl rfl (o15 c1 r3 m3 p3 q3 c4 r5 m5 p5 q5 c6 c7 c8 r9 m9 p9 q9 r10 m10 p10 q10 c11) rfl ?_
              refine q_goto (tgt := 32) dX12_saves_120 (by decide) ?_
              refine q_kill (L' := [(2, 188), (0, w), (0, v), (0, v5), (0, r5), (0, (v5 + 1)), (4, 0), (0, 1)]) 6 rfl ?_
              refine q_kill (L' := [(2, 188), (0, w), (0, v), (0, v5), (0, r5), (0, (v5 + 1)), (4, 0), (4, 0)]) 7 rfl ?_
              exact l16 c1 r3 m3 p3 q3 c4 r5 m5 p5 q5 c6 c7 c8 r9 m9 p9 q9 r10 m10 p10 q10 c11
    · skip
      refine q_goto (tgt := 117) dX12_saves_52 (by decide) ?_
      refine qx_iinc (L' := [(2, 188), (0, w), (0, v), (0, v3), (0, v4), (0, (v5 + 1)), (4, 0), (4, 0)]) dX12_saves_117 rfl rfl rfl (o17 c1 r3 m3 p3 q3 c4) rfl ?_
      refine q_goto (tgt := 32) dX12_saves_120 (by decide) ?_
      exact l18 c1 r3 m3 p3 q3 c4
theorem dX12_place_0 : decode cX12_place 0 = .ok (.aload_n 0, 1) := by decide +kernel
theorem dX12_place_1 : decode cX12_place 1 = .ok (.iconst 0, 1) := by decide +kernel
theorem dX12_place_2 : decode cX12_place 2 = .ok (.putfield 128, 3) := by decide +kernel
theorem dX12_place_5 : decode cX12_place 5 = .ok (.aload_n 0, 1) := by decide +kernel
theorem dX12_place_6 : decode cX12_place 6 = .ok (.iload_n 1, 1) := by decide +kernel
theorem dX12_place_7 : decode cX12_place 7 = .ok (.invokevirtual 225, 3) := by decide +kernel
theorem dX12_place_10 : decode cX12_place 10 = .ok (.ifCond .eq 10, 3) := by decide +kernel
theorem dX12_place_13 : decode cX12_place 13 = .ok (.iload_n 2, 1) := by decide +kernel
theorem dX12_place_14 : decode cX12_place 14 = .ok (.invokestatic 270, 3) := by decide +kernel
theorem dX12_place_17 : decode cX12_place 17 = .ok (.ifCond .ne 5, 3) := by decide +kernel
theorem dX12_place_20 : decode cX12_place 20 = .ok (.iconst (-1), 1) := by decide +kernel
theorem dX12_place_21 : decode cX12_place 21 = .ok (.ireturn, 1) := by decide +kernel
theorem dX12_place_22 : decode cX12_place 22 = .ok (.aload_n 0, 1) := by decide +kernel
theorem dX12_place_23 : decode cX12_place 23 = .ok (.getfield 25, 3) := by decide +kernel
theorem dX12_place_26 : decode cX12_place 26 = .ok (.iload_n 1, 1) := by decide +kernel
theorem dX12_place_27 : decode cX12_place 27 = .ok (.iaload, 1) := by decide +kernel
theorem dX12_place_28 : decode cX12_place 28 = .ok (.istore_n 3, 1) := by decide +kernel
theorem dX12_place_29 : decode cX12_place 29 = .ok (.iconst (-1), 1) := by decide +kernel
theorem dX12_place_30 : decode cX12_place 30 = .ok (.istore 4, 2) := by decide +kernel
theorem dX12_place_32 : decode cX12_place 32 = .ok (.iconst 0, 1) := by decide +kernel
theorem dX12_place_33 : decode cX12_place 33 = .ok (.istore 5, 2) := by decide +kernel
theorem dX12_place_35 : decode cX12_place 35 = .ok (.iconst (-1), 1) := by decide +kernel
theorem dX12_place_36 : decode cX12_place 36 = .ok (.istore 6, 2) := by decide +kernel
theorem dX12_place_38 : decode cX12_place 38 = .ok (.iload 6, 2) := by decide +kernel
theorem dX12_place_40 : decode cX12_place 40 = .ok (.aload_n 0, 1) := by decide +kernel
theorem dX12_place_41 : decode cX12_place 41 = .ok (.getfield 134, 3) := by decide +kernel
theorem dX12_place_44 : decode cX12_place 44 = .ok (.if_icmp .ge 77, 3) := by decide +kernel
theorem dX12_place_47 : decode cX12_place 47 = .ok (.iload 6, 2) := by decide +kernel
theorem dX12_place_49 : decode cX12_place 49 = .ok (.iconst (-1), 1) := by decide +kernel
theorem dX12_place_50 : decode cX12_place 50 = .ok (.if_icmp .eq 22, 3) := by decide +kernel
theorem dX12_place_53 : decode cX12_place 53 = .ok (.aload_n 0, 1) := by decide +kernel
theorem dX12_place_54 : decode cX12_place 54 = .ok (.getfield 22, 3) := by decide +kernel
theorem dX12_place_57 : decode cX12_place 57 = .ok (.iload 6, 2) := by decide +kernel
theorem dX12_place_59 : decode cX12_place 59 = .ok (.iaload, 1) := by decide +kernel
theorem dX12_place_60 : decode cX12_place 60 = .ok (.aload_n 0, 1) := by decide +kernel
theorem dX12_place_61 : decode cX12_place 61 = .ok (.getfield 22, 3) := by decide +kernel
theorem dX12_place_64 : decode cX12_place 64 = .ok (.iload_n 1, 1) := by decide +kernel
theorem dX12_place_65 : decode cX12_place 65 = .ok (.iaload, 1) := by decide +kernel
theorem dX12_place_66 : decode cX12_place 66 = .ok (.if_icmp .lt 6, 3) := by decide +kernel
theorem dX12_place_69 : decode cX12_place 69 = .ok (.goto 46, 3) := by decide +kernel
theorem dX12_place_72 : decode cX12_place 72 = .ok (.aload_n 0, 1) := by decide +kernel
theorem dX12_place_73 : decode cX12_place 73 = .ok (.getfield 25, 3) := by decide +kernel
theorem dX12_place_76 : decode cX12_place 76 = .ok (.iload_n 1, 1) := by decide +kernel
theorem dX12_place_77 : decode cX12_place 77 = .ok (.iload 6, 2) := by decide +kernel
theorem dX12_place_79 : decode cX12_place 79 = .ok (.iastore, 1) := by decide +kernel
theorem dX12_place_80 : decode cX12_place 80 = .ok (.aload_n 0, 1) := by decide +kernel
theorem dX12_place_81 : decode cX12_place 81 = .ok (.invokevirtual 312, 3) := by decide +kernel
theorem dX12_place_84 : decode cX12_place 84 = .ok (.aload_n 0, 1) := by decide +kernel
theorem dX12_place_85 : decode cX12_place 85 = .ok (.iload_n 2, 1) := by decide +kernel
theorem dX12_place_86 : decode cX12_place 86 = .ok (.invokevirtual 317, 3) := by decide +kernel
theorem dX12_place_89 : decode cX12_place 89 = .ok (.istore 7, 2) := by decide +kernel
theorem dX12_place_91 : decode cX12_place 91 = .ok (.iload 6, 2) := by decide +kernel
theorem dX12_place_93 : decode cX12_place 93 = .ok (.iconst (-1), 1) := by decide +kernel
theorem dX12_place_94 : decode cX12_place 94 = .ok (.if_icmp .eq 13, 3) := by decide +kernel
theorem dX12_place_97 : decode cX12_place 97 = .ok (.iload 7, 2) := by decide +kernel
theorem dX12_place_99 : decode cX12_place 99 = .ok (.iload 5, 2) := by decide +kernel
theorem dX12_place_101 : decode cX12_place 101 = .ok (.if_icmp .lt 6, 3) := by decide +kernel
theorem dX12_place_104 : decode cX12_place 104 = .ok (.goto 11, 3) := by decide +kernel
theorem dX12_place_107 : decode cX12_place 107 = .ok (.iload 6, 2) := by decide +kernel
theorem dX12_place_109 : decode cX12_place 109 = .ok (.istore 4, 2) := by decide +kernel
theorem dX12_place_111 : decode cX12_place 111 = .ok (.iload 7, 2) := by decide +kernel
theorem dX12_place_113 : decode cX12_place 113 = .ok (.istore 5, 2) := by decide +kernel
theorem dX12_place_115 : decode cX12_place 115 = .ok (.iinc 6 1, 3) := by decide +kernel
theorem dX12_place_118 : decode cX12_place 118 = .ok (.goto (-80), 3) := by decide +kernel
theorem dX12_place_121 : decode cX12_place 121 = .ok (.aload_n 0, 1) := by decide +kernel
theorem dX12_place_122 : decode cX12_place 122 = .ok (.getfield 25, 3) := by decide +kernel
theorem dX12_place_125 : decode cX12_place 125 = .ok (.iload_n 1, 1) := by decide +kernel
theorem dX12_place_126 : decode cX12_place 126 = .ok (.iload_n 3, 1) := by decide +kernel
theorem dX12_place_127 : decode cX12_place 127 = .ok (.iastore, 1) := by decide +kernel
theorem dX12_place_128 : decode cX12_place 128 = .ok (.aload_n 0, 1) := by decide +kernel
theorem dX12_place_129 : decode cX12_place 129 = .ok (.iconst 0, 1) := by decide +kernel
theorem dX12_place_130 : decode cX12_place 130 = .ok (.putfield 131, 3) := by decide +kernel
theorem dX12_place_133 : decode cX12_place 133 = .ok (.aload_n 0, 1) := by decide +kernel
theorem dX12_place_134 : decode cX12_place 134 = .ok (.iload 4, 2) := by decide +kernel
theorem dX12_place_136 : decode cX12_place 136 = .ok (.invokevirtual 276, 3) := by decide +kernel
theorem dX12_place_139 : decode cX12_place 139 = .ok (.iload 5, 2) := by decide +kernel
theorem dX12_place_141 : decode cX12_place 141 = .ok (.ireturn, 1) := by decide +kernel
theorem bkX12_place_0 {b : Int} {mem : qm} {Q : Int → qm → Prop}
    {j v : Int}
    (o1 : q_in32 ((mem 188 0) - 1))
    (o2 : (0 ≤ j ∧ j ≤ (mem 188 0) - 1) → (0 ≤ v ∧ v ≤ 200) → (0 ≤ j ∧ j < 9))
    (l3 : (0 ≤ j ∧ j ≤ (mem 188 0) - 1) → (0 ≤ v ∧ v ≤ 200) → q_At yX12_place cX12_place 8 (some .int) 3 0 0 (qK (q_rb b) Q) 38 [(2, 188), (0, j), (0, v), (0, (mem 194 j)), (0, (-1)), (0, 0), (0, (-1)), (4, 0)] [] (q_sh0, q_rb b, (q_up mem 188 17 0)))
    (l4 : (0 ≤ j ∧ j ≤ (mem 188 0) - 1) → ¬ (0 ≤ v ∧ v ≤ 200) → Q (-1) (q_up mem 188 17 0))
    (l5 : ¬ (0 ≤ j ∧ j ≤ (mem 188 0) - 1) → Q (-1) (q_up mem 188 17 0)) :
    q_At yX12_place cX12_place 8 (some .int) 3 0 0 (qK (q_rb b) Q) 0 [(2, 188), (0, j), (0, v), (4, 0), (4, 0), (4, 0), (4, 0), (4, 0)] [] (q_sh0, q_rb b, mem) := by
  refine q_aload_n dX12_place_0 rfl rfl ?_
  refine qx_iconst dX12_place_1 rfl rfl ?_
  refine q_putI (ci := 12) (k := 17) (kI := 17) (ty := .int) dX12_place_2 rfl (by decide) rfl tw1200 rfl rfl rfl (fun _ => ⟨rfl, rfl⟩) qs188 ?_
  refine q_aload_n dX12_place_5 rfl rfl ?_
  refine q_iload_n dX12_place_6 rfl rfl ?_
  refine qx_invV (ci := 12) [(0, j)] [(0, j), (2, 188)] rfl qM_X12_isJar dX12_place_7 tw1433 rfl qs188 rfl rfl rfl rfl (spX12_isJar (by first | exact (o1) | (simp only [q_up, Int.reduceEq, false_and, true_and, and_true, and_false, ite_false, ite_true, if_true, if_false]; exact (o1)))) (fun r1 m1 p1 q1 => ?_)
  obtain ⟨p1e, ⟨p1f, p1⟩ | ⟨p1f, p1⟩⟩ := p1
  · rw [p1e, p1f]
    simp only [q_up, Int.reduceEq, false_and, true_and, and_true, and_false, ite_false, ite_true, if_true, if_false] at p1
    refine qx_if_eq (tgt := 20) dX12_place_10 (by decide) (fun z => absurd z (by decide)) (fun _ => ?_)
    refine q_iload_n dX12_place_13 rfl rfl ?_
    refine qx_invS [(0, v)] [(0, v)] rfl qM_X12_isAhead dX12_place_14 tw1502 rfl rfl rfl rfl (spX12_isAhead) (fun r2 m2 p2 q2 => ?_)
    obtain ⟨p2e, ⟨p2f, p2⟩ | ⟨p2f, p2⟩⟩ := p2
    · rw [p2e, p2f]
      refine qx_if_ne (tgt := 22) dX12_place_17 (by decide) (fun _ => ?_) (fun z => absurd z (by decide))
      refine q_aload_n dX12_place_22 rfl rfl ?_
      refine q_getR (ci := 12) (k := 6) dX12_place_23 rfl (by decide) rfl tw1189 (by decide) qs188 qw188_6 (by decide) ?_
      refine q_iload_n dX12_place_26 rfl rfl ?_
      refine qx_iald (v := (mem 194 j)) dX12_place_27 qs194 (o2 p1 p2) (q_up_c (by decide)) ?_
      refine qx_istore_n (L' := [(2, 188), (0, j), (0, v), (0, (mem 194 j)), (4, 0), (4, 0), (4, 0), (4, 0)]) dX12_place_28 rfl rfl rfl rfl ?_
      refine qx_iconst dX12_place_29 rfl rfl ?_
      refine qx_istore (L' := [(2, 188), (0, j), (0, v), (0, (mem 194 j)), (0, (-1)), (4, 0), (4, 0), (4, 0)]) dX12_place_30 rfl rfl rfl ?_
      refine qx_iconst dX12_place_32 rfl rfl ?_
      refine qx_istore (L' := [(2, 188), (0, j), (0, v), (0, (mem 194 j)), (0, (-1)), (0, 0), (4, 0), (4, 0)]) dX12_place_33 rfl rfl rfl ?_
      refine qx_iconst dX12_place_35 rfl rfl ?_
      refine qx_istore (L' := [(2, 188), (0, j), (0, v), (0, (mem 194 j)), (0, (-1)), (0, 0), (0, (-1)), (4, 0)]) dX12_place_36 rfl rfl rfl ?_
      exact l3 p1 p2
    · rw [p2e, p2f]
      refine qx_if_ne (tgt := 22) dX12_place_17 (by decide) (fun z => absurd z (by decide)) (fun _ => ?_)
      refine qx_iconst dX12_place_20 rfl rfl ?_
      exact q_iret dX12_place_21 (qK_i (l4 p1 p2))
  · rw [p1e, p1f]
    simp only [q_up, Int.reduceEq, false_and, true_and, and_true, and_false, ite_false, ite_true, if_true, if_false] at p1
    refine qx_if_eq (tgt := 20) dX12_place_10 (by decide) (fun _ => ?_) (fun z => absurd z (by decide))
    refine qx_iconst dX12_place_20 rfl rfl ?_
    exact q_iret dX12_place_21 (qK_i (l5 p1))
theorem bkX12_place_38 {b : Int} {mem : qm} {Q : Int → qm → Prop}
    {j v v3 v4 v5 v6 : Int}
    (o1 : (mem 188 0) ≤ v6 → (0 ≤ j ∧ j < 9) ∧ (0 ≤ (0 : Int) ∧ (0 : Int) < 16))
    (l2 : (mem 188 0) ≤ v6 → Q v5 (q_up (q_up (q_up (q_up mem 194 j v3) 188 16 0) 199 (0 : Int) v4) 188 16 ((0 : Int) + 1)))
    (o3 : v6 < (mem 188 0) → v6 = (-1) → (0 ≤ j ∧ j < 9))
    {P4 : Int → qm → Prop}
    (l4 : v6 < (mem 188 0) → v6 = (-1) → q_Ev yX12_begin_ cX12_begin_ 2 none 1 0 0 [(2, 188)] (q_sh0, q_rb b, (q_up mem 194 j v6)) (qK (q_rb b) (P4)))
    {P5 : Int → qm → Int → qm → Prop}
    (l5 : v6 < (mem 188 0) → v6 = (-1) → ∀ (r4 : Int), ∀ (m4 : qm), P4 r4 m4 → q_in32 r4 → q_Ev yX12_goOn_ cX12_goOn_ 4 (some .int) 2 0 0 [(2, 188), (0, v)] (q_sh0, q_rb b, m4) (qK (q_rb b) (P5 r4 m4)))
    (o6 : v6 < (mem 188 0) → v6 = (-1) → ∀ (r4 : Int), ∀ (m4 : qm), P4 r4 m4 → q_in32 r4 → ∀ (r5 : Int), ∀ (m5 : qm), P5 r4 m4 r5 m5 → q_in32 r5 → v6 = (-1) → q_in32 (v6 + 1))
    (l7 : v6 < (mem 188 0) → v6 = (-1) → ∀ (r4 : Int), ∀ (m4 : qm), P4 r4 m4 → q_in32 r4 → ∀ (r5 : Int), ∀ (m5 : qm), P5 r4 m4 r5 m5 → q_in32 r5 → v6 = (-1) → q_At yX12_place cX12_place 8 (some .int) 3 0 0 (qK (q_rb b) Q) 38 [(2, 188), (0, j), (0, v), (0, v3), (0, v6), (0, r5), (0, (v6 + 1)), (4, 0)] [] (q_sh0, q_rb b, m5))
    (o8 : v6 < (mem 188 0) → v6 = (-1) → ∀ (r4 : Int), ∀ (m4 : qm), P4 r4 m4 → q_in32 r4 → ∀ (r5 : Int), ∀ (m5 : qm), P5 r4 m4 r5 m5 → q_in32 r5 → v6 ≠ (-1) → r5 < v5 → q_in32 (v6 + 1))
    (l9 : v6 < (mem 188 0) → v6 = (-1) → ∀ (r4 : Int), ∀ (m4 : qm), P4 r4 m4 → q_in32 r4 → ∀ (r5 : Int), ∀ (m5 : qm), P5 r4 m4 r5 m5 → q_in32 r5 → v6 ≠ (-1) → r5 < v5 → q_At yX12_place cX12_place 8 (some .int) 3 0 0 (qK (q_rb b) Q) 38 [(2, 188), (0, j), (0, v), (0, v3), (0, v6), (0, r5), (0, (v6 + 1)), (4, 0)] [] (q_sh0, q_rb b, m5))
    (o10 : v6 < (mem 188 0) → v6 = (-1) → ∀ (r4 : Int), ∀ (m4 : qm), P4 r4 m4 → q_in32 r4 → ∀ (r5 : Int), ∀ (m5 : qm), P5 r4 m4 r5 m5 → q_in32 r5 → v6 ≠ (-1) → v5 ≤ r5 → q_in32 (v6 + 1))
    (l11 : v6 < (mem 188 0) → v6 = (-1) → ∀ (r4 : Int), ∀ (m4 : qm), P4 r4 m4 → q_in32 r4 → ∀ (r5 : Int), ∀ (m5 : qm), P5 r4 m4 r5 m5 → q_in32 r5 → v6 ≠ (-1) → v5 ≤ r5 → q_At yX12_place cX12_place 8 (some .int) 3 0 0 (qK (q_rb b) Q) 38 [(2, 188), (0, j), (0, v), (0, v3), (0, v4), (0, v5), (0, (v6 + 1)), (4, 0)] [] (q_sh0, q_rb b, m5))
    (o12 : v6 < (mem 188 0) → v6 ≠ (-1) → (0 ≤ v6 ∧ v6 < 9) ∧ (0 ≤ j ∧ j < 9))
    {P9 : Int → qm → Prop}
    (l13 : v6 < (mem 188 0) → v6 ≠ (-1) → (mem 193 v6) < (mem 193 j) → q_Ev yX12_begin_ cX12_begin_ 2 none 1 0 0 [(2, 188)] (q_sh0, q_rb b, (q_up mem 194 j v6)) (qK (q_rb b) (P9)))
    {P10 : Int → qm → Int → qm → Prop}
    (l14 : v6 < (mem 188 0) → v6 ≠ (-1) → (mem 193 v6) < (mem 193 j) → ∀ (r9 : Int), ∀ (m9 : qm), P9 r9 m9 → q_in32 r9 → q_Ev yX12_goOn_ cX12_goOn_ 4 (some .int) 2 0 0 [(2, 188), (0, v)] (q_sh0, q_rb b, m9) (qK (q_rb b) (P10 r9 m9)))
    (o15 : v6 < (mem 188 0) → v6 ≠ (-1) → (mem 193 v6) < (mem 193 j) → ∀ (r9 : Int), ∀ (m9 : qm), P9 r9 m9 → q_in32 r9 → ∀ (r10 : Int), ∀ (m10 : qm), P10 r9 m9 r10 m10 → q_in32 r10 → v6 = (-1) → q_in32 (v6 + 1))
    (l16 : v6 < (mem 188 0) → v6 ≠ (-1) → (mem 193 v6) < (mem 193 j) → ∀ (r9 : Int), ∀ (m9 : qm), P9 r9 m9 → q_in32 r9 → ∀ (r10 : Int), ∀ (m10 : qm), P10 r9 m9 r10 m10 → q_in32 r10 → v6 = (-1) → q_At yX12_place cX12_place 8 (some .int) 3 0 0 (qK (q_rb b) Q) 38 [(2, 188), (0, j), (0, v), (0, v3), (0, v6), (0, r10), (0, (v6 + 1)), (4, 0)] [] (q_sh0, q_rb b, m10))
    (o17 : v6 < (mem 188 0) → v6 ≠ (-1) → (mem 193 v6) < (mem 193 j) → ∀ (r9 : Int), ∀ (m9 : qm), P9 r9 m9 → q_in32 r9 → ∀ (r10 : Int), ∀ (m10 : qm), P10 r9 m9 r10 m10 → q_in32 r10 → v6 ≠ (-1) → r10 < v5 → q_in32 (v6 + 1))
    (l18 : v6 < (mem 188 0) → v6 ≠ (-1) → (mem 193 v6) < (mem 193 j) → ∀ (r9 : Int), ∀ (m9 : qm), P9 r9 m9 → q_in32 r9 → ∀ (r10 : Int), ∀ (m10 : qm), P10 r9 m9 r10 m10 → q_in32 r10 → v6 ≠ (-1) → r10 < v5 → q_At yX12_place cX12_place 8 (some .int) 3 0 0 (qK (q_rb b) Q) 38 [(2, 188), (0, j), (0, v), (0, v3), (0, v6), (0, r10), (0, (v6 + 1)), (4, 0)] [] (q_sh0, q_rb b, m10))
    (o19 : v6 < (mem 188 0) → v6 ≠ (-1) → (mem 193 v6) < (mem 193 j) → ∀ (r9 : Int), ∀ (m9 : qm), P9 r9 m9 → q_in32 r9 → ∀ (r10 : Int), ∀ (m10 : qm), P10 r9 m9 r10 m10 → q_in32 r10 → v6 ≠ (-1) → v5 ≤ r10 → q_in32 (v6 + 1))
    (l20 : v6 < (mem 188 0) → v6 ≠ (-1) → (mem 193 v6) < (mem 193 j) → ∀ (r9 : Int), ∀ (m9 : qm), P9 r9 m9 → q_in32 r9 → ∀ (r10 : Int), ∀ (m10 : qm), P10 r9 m9 r10 m10 → q_in32 r10 → v6 ≠ (-1) → v5 ≤ r10 → q_At yX12_place cX12_place 8 (some .int) 3 0 0 (qK (q_rb b) Q) 38 [(2, 188), (0, j), (0, v), (0, v3), (0, v4), (0, v5), (0, (v6 + 1)), (4, 0)] [] (q_sh0, q_rb b, m10))
    (o21 : v6 < (mem 188 0) → v6 ≠ (-1) → (mem 193 j) ≤ (mem 193 v6) → q_in32 (v6 + 1))
    (l22 : v6 < (mem 188 0) → v6 ≠ (-1) → (mem 193 j) ≤ (mem 193 v6) → q_At yX12_place cX12_place 8 (some .int) 3 0 0 (qK (q_rb b) Q) 38 [(2, 188), (0, j), (0, v), (0, v3), (0, v4), (0, v5), (0, (v6 + 1)), (4, 0)] [] (q_sh0, q_rb b, mem)) :
    q_At yX12_place cX12_place 8 (some .int) 3 0 0 (qK (q_rb b) Q) 38 [(2, 188), (0, j), (0, v), (0, v3), (0, v4), (0, v5), (0, v6), (4, 0)] [] (q_sh0, q_rb b, mem) := by
  refine q_iload dX12_place_38 rfl ?_
  refine q_aload_n dX12_place_40 rfl rfl ?_
  refine qx_getI (ci := 12) (k := 0) (v := (mem 188 0)) dX12_place_41 rfl rfl rfl tw1183 rfl qs188 rfl ?_
  refine qx_icmp_ge (tgt := 121) dX12_place_44 (by decide) (fun c1 => ?_) (fun c1 => ?_)
  · skip
    refine q_aload_n dX12_place_121 rfl rfl ?_
    refine q_getR (ci := 12) (k := 6) dX12_place_122 rfl (by decide) rfl tw1189 (by decide) qs188 qw188_6 (by decide) ?_
    refine q_iload_n dX12_place_125 rfl rfl ?_
    refine q_iload_n dX12_place_126 rfl rfl ?_
    refine q_iast dX12_place_127 qs194 ((o1 c1).1).1 ((o1 c1).1).2 ?_
    refine q_aload_n dX12_place_128 rfl rfl ?_
    refine qx_iconst dX12_place_129 rfl rfl ?_
    refine q_putI (ci := 12) (k := 16) (kI := 16) (ty := .int) dX12_place_130 rfl (by decide) rfl tw1199 rfl rfl rfl (fun _ => ⟨rfl, rfl⟩) qs188 ?_
    refine q_aload_n dX12_place_133 rfl rfl ?_
    refine q_iload dX12_place_134 rfl ?_
    refine qx_invV (ci := 12) [(0, v4)] [(0, v4), (2, 188)] rfl qM_X12_tell dX12_place_136 tw1509 rfl qs188 rfl rfl rfl rfl (spX12_tell (by first | exact (o1 c1).2 | (simp only [q_up, Int.reduceEq, false_and, true_and, and_true, and_false, ite_false, ite_true, if_true, if_false]; exact (o1 c1).2))) (fun r2 m2 p2 q2 => ?_)
    obtain rfl := p2
    refine q_iload dX12_place_139 rfl ?_
    exact q_iret dX12_place_141 (qK_i (l2 c1))
  · skip
    refine q_iload dX12_place_47 rfl ?_
    refine qx_iconst dX12_place_49 rfl rfl ?_
    refine qx_icmp_eq (tgt := 72) dX12_place_50 (by decide) (fun c3 => ?_) (fun c3 => ?_)
    · skip
      refine q_aload_n dX12_place_72 rfl rfl ?_
      refine q_getR (ci := 12) (k := 6) dX12_place_73 rfl (by decide) rfl tw1189 (by decide) qs188 qw188_6 (by decide) ?_
      refine q_iload_n dX12_place_76 rfl rfl ?_
      refine q_iload dX12_place_77 rfl ?_
      refine q_iast dX12_place_79 qs194 ((o3 c1 c3)).1 ((o3 c1 c3)).2 ?_
      refine q_aload_n dX12_place_80 rfl rfl ?_
      refine qx_invV (ci := 12) [] [(2, 188)] rfl qM_X12_begin_ dX12_place_81 tw1559 rfl qs188 rfl rfl rfl rfl (l4 c1 c3) (fun r4 m4 p4 q4 => ?_)
      refine q_aload_n dX12_place_84 rfl rfl ?_
      refine q_iload_n dX12_place_85 rfl rfl ?_
      refine qx_invV (ci := 12) [(0, v)] [(0, v), (2, 188)] rfl qM_X12_goOn_ dX12_place_86 tw1583 rfl qs188 rfl rfl rfl rfl (l5 c1 c3 r4 m4 p4 q4) (fun r5 m5 p5 q5 => ?_)
      refine qx_istore (L' := [(2, 188), (0, j), (0, v), (0, v3), (0, v4), (0, v5), (0, v6), (0, r5)]) dX12_place_89 rfl rfl rfl ?_
      refine q_iload dX12_place_91 rfl ?_
      refine qx_iconst dX12_place_93 rfl rfl ?_
      refine qx_icmp_eq (tgt := 107) dX12_place_94 (by decide) (fun c6 => ?_) (fun c6 => ?_)
      · skip
        refine q_iload dX12_place_107 rfl ?_
        refine qx_istore (L' := [(2, 188), (0, j), (0, v), (0, v3), (0, v6), (0, v5), (0, v6), (0, r5)]) dX12_place_109 rfl rfl rfl ?_
        refine q_iload dX12_place_111 rfl ?_
        refine qx_istore (L' := [(2, 188), (0, j), (0, v), (0, v3), (0, v6), (0, r5), (0, v6), (0, r5)]) dX12_place_113 rfl rfl rfl ?_
        refine qx_iinc (L' := [(2, 188), (0, j), (0, v), (0, v3), (0, v6), (0, r5), (0, (v6 + 1)), (0, r5)]) dX12_place_115 rfl rfl rfl (o6 c1 c3 r4 m4 p4 q4 r5 m5 p5 q5 c6) rfl ?_
        refine q_goto (tgt := 38) dX12_place_118 (by decide) ?_
        refine q_kill (L' := [(2, 188), (0, j), (0, v), (0, v3), (0, v6), (0, r5), (0, (v6 + 1)), (4, 0)]) 7 rfl ?_
        exact l7 c1 c3 r4 m4 p4 q4 r5 m5 p5 q5 c6
      · skip
        refine q_iload dX12_place_97 rfl ?_
        refine q_iload dX12_place_99 rfl ?_
        refine qx_icmp_lt (tgt := 107) dX12_place_101 (by decide) (fun c7 => ?_) (fun c7 => ?_)
        · skip
          refine q_iload dX12_place_107 rfl ?_
          refine qx_istore (L' := [(2, 188), (0, j), (0, v), (0, v3), (0, v6), (0, v5), (0, v6), (0, r5)]) dX12_place_109 rfl rfl rfl ?_
          refine q_iload dX12_place_111 rfl ?_
          refine qx_istore (L' := [(2, 188), (0, j), (0, v), (0, v3), (0, v6), (0, r5), (0, v6), (0, r5)]) dX12_place_113 rfl rfl rfl ?_
          refine qx_iinc (L' := [(2, 188), (0, j), (0, v), (0, v3), (0, v6), (0, r5), (0, (v6 + 1)), (0, r5)]) dX12_place_115 rfl rfl rfl (o8 c1 c3 r4 m4 p4 q4 r5 m5 p5 q5 c6 c7) rfl ?_
          refine q_goto (tgt := 38) dX12_place_118 (by decide) ?_
          refine q_kill (L' := [(2, 188), (0, j), (0, v), (0, v3), (0, v6), (0, r5), (0, (v6 + 1)), (4, 0)]) 7 rfl ?_
          exact l9 c1 c3 r4 m4 p4 q4 r5 m5 p5 q5 c6 c7
        · skip
          refine q_goto (tgt := 115) dX12_place_104 (by decide) ?_
          refine qx_iinc (L' := [(2, 188), (0, j), (0, v), (0, v3), (0, v4), (0, v5), (0, (v6 + 1)), (0, r5)]) dX12_place_115 rfl rfl rfl (o10 c1 c3 r4 m4 p4 q4 r5 m5 p5 q5 c6 c7) rfl ?_
          refine q_goto (tgt := 38) dX12_place_118 (by decide) ?_
          refine q_kill (L' := [(2, 188), (0, j), (0, v), (0, v3), (0, v4), (0, v5), (0, (v6 + 1)), (4, 0)]) 7 rfl ?_
          exact l11 c1 c3 r4 m4 p4 q4 r5 m5 p5 q5 c6 c7
    · skip
      refine q_aload_n dX12_place_53 rfl rfl ?_
      refine q_getR (ci := 12) (k := 5) dX12_place_54 rfl (by decide) rfl tw1188 (by decide) qs188 qw188_5 (by decide) ?_
      refine q_iload dX12_place_57 rfl ?_
      refine qx_iald (v := (mem 193 v6)) dX12_place_59 qs193 (o12 c1 c3).1 rfl ?_
      refine q_aload_n dX12_place_60 rfl rfl ?_
      refine q_getR (ci := 12) (k := 5) dX12_place_61 rfl (by decide) rfl tw1188 (by decide) qs188 qw188_5 (by decide) ?_
      refine q_iload_n dX12_place_64 rfl rfl ?_
      refine qx_iald (v := (mem 193 j)) dX12_place_65 qs193 (o12 c1 c3).2 rfl ?_
      refine qx_icmp_lt (tgt := 72) dX12_place_66 (by decide) (fun c8 => ?_) (fun c8 => ?_)
      · skip
        refine q_aload_n dX12_place_72 rfl rfl ?_
        refine q_getR (ci := 12) (k := 6) dX12_place_73 rfl (by decide) rfl tw1189 (by decide) qs188 qw188_6 (by decide) ?_
        refine q_iload_n dX12_place_76 rfl rfl ?_
        refine q_iload dX12_place_77 rfl ?_
        refine q_iast dX12_place_79 qs194 ((o12 c1 c3).2).1 ((o12 c1 c3).2).2 ?_
        refine q_aload_n dX12_place_80 rfl rfl ?_
        refine qx_invV (ci := 12) [] [(2, 188)] rfl qM_X12_begin_ dX12_place_81 tw1559 rfl qs188 rfl rfl rfl rfl (l13 c1 c3 c8) (fun r9 m9 p9 q9 => ?_)
        refine q_aload_n dX12_place_84 rfl rfl ?_
        refine q_iload_n dX12_place_85 rfl rfl ?_
        refine qx_invV (ci := 12) [(0, v)] [(0, v), (2, 188)] rfl qM_X12_goOn_ dX12_place_86 tw1583 rfl qs188 rfl rfl rfl rfl (l14 c1 c3 c8 r9 m9 p9 q9) (fun r10 m10 p10 q10 => ?_)
        refine qx_istore (L' := [(2, 188), (0, j), (0, v), (0, v3), (0, v4), (0, v5), (0, v6), (0, r10)]) dX12_place_89 rfl rfl rfl ?_
        refine q_iload dX12_place_91 rfl ?_
        refine qx_iconst dX12_place_93 rfl rfl ?_
        refine qx_icmp_eq (tgt := 107) dX12_place_94 (by decide) (fun c11 => ?_) (fun c11 => ?_)
        · skip
          refine q_iload dX12_place_107 rfl ?_
          refine qx_istore (L' := [(2, 188), (0, j), (0, v), (0, v3), (0, v6), (0, v5), (0, v6), (0, r10)]) dX12_place_109 rfl rfl rfl ?_
          refine q_iload dX12_place_111 rfl ?_
          refine qx_istore (L' := [(2, 188), (0, j), (0, v), (0, v3), (0, v6), (0, r10), (0, v6), (0, r10)]) dX12_place_113 rfl rfl rfl ?_
          refine qx_iinc (L' := [(2, 188), (0, j), (0, v), (0, v3), (0, v6), (0, r10), (0, (v6 + 1)), (0, r10)]) dX12_place_115 rfl rfl rfl (o15 c1 c3 c8 r9 m9 p9 q9 r10 m10 p10 q10 c11) rfl ?_
          refine q_goto (tgt := 38) dX12_place_118 (by decide) ?_
          refine q_kill (L' := [(2, 188), (0, j), (0, v), (0, v3), (0, v6), (0, r10), (0, (v6 + 1)), (4, 0)]) 7 rfl ?_
          exact l16 c1 c3 c8 r9 m9 p9 q9 r10 m10 p10 q10 c11
        · skip
          refine q_iload dX12_place_97 rfl ?_
          refine q_iload dX12_place_99 rfl ?_
          refine qx_icmp_lt (tgt := 107) dX12_place_101 (by decide) (fun c12 => ?_) (fun c12 => ?_)
          · skip
            refine q_iload dX12_place_107 rfl ?_
            refine qx_istore (L' := [(2, 188), (0, j), (0, v), (0, v3), (0, v6), (0, v5), (0, v6), (0, r10)]) dX12_place_109 rfl rfl rfl ?_
            refine q_iload dX12_place_111 rfl ?_
            refine qx_istore (L' := [(2, 188), (0, j), (0, v), (0, v3), (0, v6), (0, r10), (0, v6), (0, r10)]) dX12_place_113 rfl rfl rfl ?_
            refine qx_iinc (L' := [(2, 188), (0, j), (0, v), (0, v3), (0, v6), (0, r10), (0, (v6 + 1)), (0, r10)]) dX12_place_115 rfl rfl rfl (o17 c1 c3 c8 r9 m9 p9 q9 r10 m10 p10 q10 c11 c12) rfl ?_
            refine q_goto (tgt := 38) dX12_place_118 (by decide) ?_
            refine q_kill (L' := [(2, 188), (0, j), (0, v), (0, v3), (0, v6), (0, r10), (0, (v6 + 1)), (4, 0)]) 7 rfl ?_
            exact l18 c1 c3 c8 r9 m9 p9 q9 r10 m10 p10 q10 c11 c12
          · skip
            refine q_goto (tgt := 115) dX12_place_104 (by decide) ?_
            refine qx_iinc (L' := [(2, 188), (0, j), (0, v), (0, v3), (0, v4), (0, v5), (0, (v6 + 1)), (0, r10)]) dX12_place_115 rfl rfl rfl (o19 c1 c3 c8 r9 m9 p9 q9 r10 m10 p10 q10 c11 c12) rfl ?_
            refine q_goto (tgt := 38) dX12_place_118 (by decide) ?_
            refine q_kill (L' := [(2, 188), (0, j), (0, v), (0, v3), (0, v4), (0, v5), (0, (v6 + 1)), (4, 0)]) 7 rfl ?_
            exact l20 c1 c3 c8 r9 m9 p9 q9 r10 m10 p10 q10 c11 c12
      · skip
        refine q_goto (tgt := 115) dX12_place_69 (by decide) ?_
        refine qx_iinc (L' := [(2, 188), (0, j), (0, v), (0, v3), (0, v4), (0, v5), (0, (v6 + 1)), (4, 0)]) dX12_place_115 rfl rfl rfl (o21 c1 c3 c8) rfl ?_
        refine q_goto (tgt := 38) dX12_place_118 (by decide) ?_
        exact l22 c1 c3 c8
theorem dX12_isSo_0 : decode cX12_isSo 0 = .ok (.iconst 0, 1) := by decide +kernel
theorem dX12_isSo_1 : decode cX12_isSo 1 = .ok (.istore_n 1, 1) := by decide +kernel
theorem dX12_isSo_2 : decode cX12_isSo 2 = .ok (.iconst 0, 1) := by decide +kernel
theorem dX12_isSo_3 : decode cX12_isSo 3 = .ok (.istore_n 2, 1) := by decide +kernel
theorem dX12_isSo_4 : decode cX12_isSo 4 = .ok (.iload_n 2, 1) := by decide +kernel
theorem dX12_isSo_5 : decode cX12_isSo 5 = .ok (.aload_n 0, 1) := by decide +kernel
theorem dX12_isSo_6 : decode cX12_isSo 6 = .ok (.getfield 372, 3) := by decide +kernel
theorem dX12_isSo_9 : decode cX12_isSo 9 = .ok (.if_icmp .ge 24, 3) := by decide +kernel
theorem dX12_isSo_12 : decode cX12_isSo 12 = .ok (.iload_n 1, 1) := by decide +kernel
theorem dX12_isSo_13 : decode cX12_isSo 13 = .ok (.aload_n 0, 1) := by decide +kernel
theorem dX12_isSo_14 : decode cX12_isSo 14 = .ok (.getfield 112, 3) := by decide +kernel
theorem dX12_isSo_17 : decode cX12_isSo 17 = .ok (.iconst 3, 1) := by decide +kernel
theorem dX12_isSo_18 : decode cX12_isSo 18 = .ok (.iload_n 2, 1) := by decide +kernel
theorem dX12_isSo_19 : decode cX12_isSo 19 = .ok (.imul, 1) := by decide +kernel
theorem dX12_isSo_20 : decode cX12_isSo 20 = .ok (.iconst 1, 1) := by decide +kernel
theorem dX12_isSo_21 : decode cX12_isSo 21 = .ok (.iadd, 1) := by decide +kernel
theorem dX12_isSo_22 : decode cX12_isSo 22 = .ok (.iaload, 1) := by decide +kernel
theorem dX12_isSo_23 : decode cX12_isSo 23 = .ok (.invokestatic 240, 3) := by decide +kernel
theorem dX12_isSo_26 : decode cX12_isSo 26 = .ok (.istore_n 1, 1) := by decide +kernel
theorem dX12_isSo_27 : decode cX12_isSo 27 = .ok (.iinc 2 1, 3) := by decide +kernel
theorem dX12_isSo_30 : decode cX12_isSo 30 = .ok (.goto (-26), 3) := by decide +kernel
theorem dX12_isSo_33 : decode cX12_isSo 33 = .ok (.iconst 0, 1) := by decide +kernel
theorem dX12_isSo_34 : decode cX12_isSo 34 = .ok (.istore_n 2, 1) := by decide +kernel
theorem dX12_isSo_35 : decode cX12_isSo 35 = .ok (.iload_n 2, 1) := by decide +kernel
theorem dX12_isSo_36 : decode cX12_isSo 36 = .ok (.iload_n 1, 1) := by decide +kernel
theorem dX12_isSo_37 : decode cX12_isSo 37 = .ok (.if_icmp .gt 72, 3) := by decide +kernel
theorem dX12_isSo_40 : decode cX12_isSo 40 = .ok (.iconst 0, 1) := by decide +kernel
theorem dX12_isSo_41 : decode cX12_isSo 41 = .ok (.istore_n 3, 1) := by decide +kernel
theorem dX12_isSo_42 : decode cX12_isSo 42 = .ok (.iload_n 3, 1) := by decide +kernel
theorem dX12_isSo_43 : decode cX12_isSo 43 = .ok (.aload_n 0, 1) := by decide +kernel
theorem dX12_isSo_44 : decode cX12_isSo 44 = .ok (.getfield 372, 3) := by decide +kernel
theorem dX12_isSo_47 : decode cX12_isSo 47 = .ok (.if_icmp .ge 51, 3) := by decide +kernel
theorem dX12_isSo_50 : decode cX12_isSo 50 = .ok (.aload_n 0, 1) := by decide +kernel
theorem dX12_isSo_51 : decode cX12_isSo 51 = .ok (.getfield 112, 3) := by decide +kernel
theorem dX12_isSo_54 : decode cX12_isSo 54 = .ok (.iconst 3, 1) := by decide +kernel
theorem dX12_isSo_55 : decode cX12_isSo 55 = .ok (.iload_n 3, 1) := by decide +kernel
theorem dX12_isSo_56 : decode cX12_isSo 56 = .ok (.imul, 1) := by decide +kernel
theorem dX12_isSo_57 : decode cX12_isSo 57 = .ok (.iconst 1, 1) := by decide +kernel
theorem dX12_isSo_58 : decode cX12_isSo 58 = .ok (.iadd, 1) := by decide +kernel
theorem dX12_isSo_59 : decode cX12_isSo 59 = .ok (.iaload, 1) := by decide +kernel
theorem dX12_isSo_60 : decode cX12_isSo 60 = .ok (.iload_n 2, 1) := by decide +kernel
theorem dX12_isSo_61 : decode cX12_isSo 61 = .ok (.if_icmp .ne 31, 3) := by decide +kernel
theorem dX12_isSo_64 : decode cX12_isSo 64 = .ok (.aload_n 0, 1) := by decide +kernel
theorem dX12_isSo_65 : decode cX12_isSo 65 = .ok (.getfield 72, 3) := by decide +kernel
theorem dX12_isSo_68 : decode cX12_isSo 68 = .ok (.aload_n 0, 1) := by decide +kernel
theorem dX12_isSo_69 : decode cX12_isSo 69 = .ok (.getfield 112, 3) := by decide +kernel
theorem dX12_isSo_72 : decode cX12_isSo 72 = .ok (.iconst 3, 1) := by decide +kernel
theorem dX12_isSo_73 : decode cX12_isSo 73 = .ok (.iload_n 3, 1) := by decide +kernel
theorem dX12_isSo_74 : decode cX12_isSo 74 = .ok (.imul, 1) := by decide +kernel
theorem dX12_isSo_75 : decode cX12_isSo 75 = .ok (.iaload, 1) := by decide +kernel
theorem dX12_isSo_76 : decode cX12_isSo 76 = .ok (.iaload, 1) := by decide +kernel
theorem dX12_isSo_77 : decode cX12_isSo 77 = .ok (.aload_n 0, 1) := by decide +kernel
theorem dX12_isSo_78 : decode cX12_isSo 78 = .ok (.getfield 112, 3) := by decide +kernel
theorem dX12_isSo_81 : decode cX12_isSo 81 = .ok (.iconst 3, 1) := by decide +kernel
theorem dX12_isSo_82 : decode cX12_isSo 82 = .ok (.iload_n 3, 1) := by decide +kernel
theorem dX12_isSo_83 : decode cX12_isSo 83 = .ok (.imul, 1) := by decide +kernel
theorem dX12_isSo_84 : decode cX12_isSo 84 = .ok (.iconst 2, 1) := by decide +kernel
theorem dX12_isSo_85 : decode cX12_isSo 85 = .ok (.iadd, 1) := by decide +kernel
theorem dX12_isSo_86 : decode cX12_isSo 86 = .ok (.iaload, 1) := by decide +kernel
theorem dX12_isSo_87 : decode cX12_isSo 87 = .ok (.if_icmp .eq 5, 3) := by decide +kernel
theorem dX12_isSo_90 : decode cX12_isSo 90 = .ok (.iconst 0, 1) := by decide +kernel
theorem dX12_isSo_91 : decode cX12_isSo 91 = .ok (.ireturn, 1) := by decide +kernel
theorem dX12_isSo_92 : decode cX12_isSo 92 = .ok (.iinc 3 1, 3) := by decide +kernel
theorem dX12_isSo_95 : decode cX12_isSo 95 = .ok (.goto (-53), 3) := by decide +kernel
theorem dX12_isSo_98 : decode cX12_isSo 98 = .ok (.aload_n 0, 1) := by decide +kernel
theorem dX12_isSo_99 : decode cX12_isSo 99 = .ok (.invokevirtual 309, 3) := by decide +kernel
theorem dX12_isSo_102 : decode cX12_isSo 102 = .ok (.pop, 1) := by decide +kernel
theorem dX12_isSo_103 : decode cX12_isSo 103 = .ok (.iinc 2 1, 3) := by decide +kernel
theorem dX12_isSo_106 : decode cX12_isSo 106 = .ok (.goto (-71), 3) := by decide +kernel
theorem dX12_isSo_109 : decode cX12_isSo 109 = .ok (.iconst 1, 1) := by decide +kernel
theorem dX12_isSo_110 : decode cX12_isSo 110 = .ok (.ireturn, 1) := by decide +kernel
theorem bkX12_isSo_0 {b : Int} {mem : qm} {Q : Int → qm → Prop}
    (l1 : q_At yX12_isSo cX12_isSo 4 (some .boolean) 2 0 0 (qK (q_rb b) Q) 4 [(2, 188), (0, 0), (0, 0), (4, 0)] [] (q_sh0, q_rb b, mem)) :
    q_At yX12_isSo cX12_isSo 4 (some .boolean) 2 0 0 (qK (q_rb b) Q) 0 [(2, 188), (4, 0), (4, 0), (4, 0)] [] (q_sh0, q_rb b, mem) := by
  refine qx_iconst dX12_isSo_0 rfl rfl ?_
  refine qx_istore_n (L' := [(2, 188), (0, 0), (4, 0), (4, 0)]) dX12_isSo_1 rfl rfl rfl rfl ?_
  refine qx_iconst dX12_isSo_2 rfl rfl ?_
  refine qx_istore_n (L' := [(2, 188), (0, 0), (0, 0), (4, 0)]) dX12_isSo_3 rfl rfl rfl rfl ?_
  exact l1
theorem bkX12_isSo_4 {b : Int} {mem : qm} {Q : Int → qm → Prop}
    {v1 v2 : Int}
    (l1 : (mem 188 49) ≤ v2 → q_At yX12_isSo cX12_isSo 4 (some .boolean) 2 0 0 (qK (q_rb b) Q) 35 [(2, 188), (0, v1), (0, 0), (4, 0)] [] (q_sh0, q_rb b, mem))
    (o2 : v2 < (mem 188 49) → q_in32 (3 * v2) ∧ q_in32 ((3 * v2) + 1) ∧ (0 ≤ ((3 * v2) + 1) ∧ ((3 * v2) + 1) < 30) ∧ q_in32 (v2 + 1))
    (l3 : v2 < (mem 188 49) → q_At yX12_isSo cX12_isSo 4 (some .boolean) 2 0 0 (qK (q_rb b) Q) 4 [(2, 188), (0, (max v1 (mem 220 ((3 * v2) + 1)))), (0, (v2 + 1)), (4, 0)] [] (q_sh0, q_rb b, mem)) :
    q_At yX12_isSo cX12_isSo 4 (some .boolean) 2 0 0 (qK (q_rb b) Q) 4 [(2, 188), (0, v1), (0, v2), (4, 0)] [] (q_sh0, q_rb b, mem) := by
  refine q_iload_n dX12_isSo_4 rfl rfl ?_
  refine q_aload_n dX12_isSo_5 rfl rfl ?_
  refine qx_getI (ci := 12) (k := 49) (v := (mem 188 49)) dX12_isSo_6 rfl rfl rfl tw1232 rfl qs188 rfl ?_
  refine qx_icmp_ge (tgt := 33) dX12_isSo_9 (by decide) (fun c1 => ?_) (fun c1 => ?_)
  · skip
    refine qx_iconst dX12_isSo_33 rfl rfl ?_
    refine qx_istore_n (L' := [(2, 188), (0, v1), (0, 0), (4, 0)]) dX12_isSo_34 rfl rfl rfl rfl ?_
    exact l1 c1
  · skip
    refine q_iload_n dX12_isSo_12 rfl rfl ?_
    refine q_aload_n dX12_isSo_13 rfl rfl ?_
    refine q_getR (ci := 12) (k := 48) dX12_isSo_14 rfl (by decide) rfl tw1231 (by decide) qs188 qw188_48 (by decide) ?_
    refine qx_iconst dX12_isSo_17 rfl rfl ?_
    refine q_iload_n dX12_isSo_18 rfl rfl ?_
    refine qx_imul dX12_isSo_19 (o2 c1).1 ?_
    refine qx_iconst dX12_isSo_20 rfl rfl ?_
    refine qx_iadd dX12_isSo_21 (o2 c1).2.1 ?_
    refine qx_iald (v := (mem 220 ((3 * v2) + 1))) dX12_isSo_22 qs220 (o2 c1).2.2.1 rfl ?_
    refine q_max dX12_isSo_23 tw1458 tw597 tw15 tw598 (by decide) (Nat.le_of_ble_eq_true rfl) ?_
    refine qx_istore_n (L' := [(2, 188), (0, (max v1 (mem 220 ((3 * v2) + 1)))), (0, v2), (4, 0)]) dX12_isSo_26 rfl rfl rfl rfl ?_
    refine qx_iinc (L' := [(2, 188), (0, (max v1 (mem 220 ((3 * v2) + 1)))), (0, (v2 + 1)), (4, 0)]) dX12_isSo_27 rfl rfl rfl (o2 c1).2.2.2 rfl ?_
    refine q_goto (tgt := 4) dX12_isSo_30 (by decide) ?_
    exact l3 c1
theorem bkX12_isSo_35 {b : Int} {mem : qm} {Q : Int → qm → Prop}
    {v1 v2 : Int}
    (l1 : v1 < v2 → Q 1 mem)
    (l2 : v2 ≤ v1 → q_At yX12_isSo cX12_isSo 4 (some .boolean) 2 0 0 (qK (q_rb b) Q) 42 [(2, 188), (0, v1), (0, v2), (0, 0)] [] (q_sh0, q_rb b, mem)) :
    q_At yX12_isSo cX12_isSo 4 (some .boolean) 2 0 0 (qK (q_rb b) Q) 35 [(2, 188), (0, v1), (0, v2), (4, 0)] [] (q_sh0, q_rb b, mem) := by
  refine q_iload_n dX12_isSo_35 rfl rfl ?_
  refine q_iload_n dX12_isSo_36 rfl rfl ?_
  refine qx_icmp_gt (tgt := 109) dX12_isSo_37 (by decide) (fun c1 => ?_) (fun c1 => ?_)
  · skip
    refine qx_iconst dX12_isSo_109 rfl rfl ?_
    exact q_zret dX12_isSo_110 (by decide) (qK_i (l1 c1))
  · skip
    refine qx_iconst dX12_isSo_40 rfl rfl ?_
    refine qx_istore_n (L' := [(2, 188), (0, v1), (0, v2), (0, 0)]) dX12_isSo_41 rfl rfl rfl rfl ?_
    exact l2 c1
theorem bkX12_isSo_42 {b : Int} {mem : qm} {Q : Int → qm → Prop}
    {v1 v2 v3 : Int}
    {P2 : Int → qm → Prop}
    (l1 : (mem 188 49) ≤ v3 → q_Ev yX12_goOn cX12_goOn 5 (some .int) 1 0 0 [(2, 188)] (q_sh0, q_rb b, mem) (qK (q_rb b) (P2)))
    (o2 : (mem 188 49) ≤ v3 → ∀ (r2 : Int), ∀ (m2 : qm), P2 r2 m2 → q_in32 r2 → q_in32 (v2 + 1))
    (l3 : (mem 188 49) ≤ v3 → ∀ (r2 : Int), ∀ (m2 : qm), P2 r2 m2 → q_in32 r2 → q_At yX12_isSo cX12_isSo 4 (some .boolean) 2 0 0 (qK (q_rb b) Q) 35 [(2, 188), (0, v1), (0, (v2 + 1)), (4, 0)] [] (q_sh0, q_rb b, m2))
    (o4 : v3 < (mem 188 49) → q_in32 (3 * v3) ∧ q_in32 ((3 * v3) + 1) ∧ (0 ≤ ((3 * v3) + 1) ∧ ((3 * v3) + 1) < 30))
    (o5 : v3 < (mem 188 49) → (mem 220 ((3 * v3) + 1)) ≠ v2 → q_in32 (v3 + 1))
    (l6 : v3 < (mem 188 49) → (mem 220 ((3 * v3) + 1)) ≠ v2 → q_At yX12_isSo cX12_isSo 4 (some .boolean) 2 0 0 (qK (q_rb b) Q) 42 [(2, 188), (0, v1), (0, v2), (0, (v3 + 1))] [] (q_sh0, q_rb b, mem))
    (o7 : v3 < (mem 188 49) → (mem 220 ((3 * v3) + 1)) = v2 → (0 ≤ (3 * v3) ∧ (3 * v3) < 30) ∧ (0 ≤ (mem 220 (3 * v3)) ∧ (mem 220 (3 * v3)) < 9) ∧ q_in32 ((3 * v3) + 2) ∧ (0 ≤ ((3 * v3) + 2) ∧ ((3 * v3) + 2) < 30))
    (o8 : v3 < (mem 188 49) → (mem 220 ((3 * v3) + 1)) = v2 → (mem 207 (mem 220 (3 * v3))) = (mem 220 ((3 * v3) + 2)) → q_in32 (v3 + 1))
    (l9 : v3 < (mem 188 49) → (mem 220 ((3 * v3) + 1)) = v2 → (mem 207 (mem 220 (3 * v3))) = (mem 220 ((3 * v3) + 2)) → q_At yX12_isSo cX12_isSo 4 (some .boolean) 2 0 0 (qK (q_rb b) Q) 42 [(2, 188), (0, v1), (0, v2), (0, (v3 + 1))] [] (q_sh0, q_rb b, mem))
    (l10 : v3 < (mem 188 49) → (mem 220 ((3 * v3) + 1)) = v2 → (mem 207 (mem 220 (3 * v3))) ≠ (mem 220 ((3 * v3) + 2)) → Q 0 mem) :
    q_At yX12_isSo cX12_isSo 4 (some .boolean) 2 0 0 (qK (q_rb b) Q) 42 [(2, 188), (0, v1), (0, v2), (0, v3)] [] (q_sh0, q_rb b, mem) := by
  refine q_iload_n dX12_isSo_42 rfl rfl ?_
  refine q_aload_n dX12_isSo_43 rfl rfl ?_
  refine qx_getI (ci := 12) (k := 49) (v := (mem 188 49)) dX12_isSo_44 rfl rfl rfl tw1232 rfl qs188 rfl ?_
  refine qx_icmp_ge (tgt := 98) dX12_isSo_47 (by decide) (fun c1 => ?_) (fun c1 => ?_)
  · skip
    refine q_aload_n dX12_isSo_98 rfl rfl ?_
    refine qx_invV (ci := 12) [] [(2, 188)] rfl qM_X12_goOn dX12_isSo_99 tw1567 rfl qs188 rfl rfl rfl rfl (l1 c1) (fun r2 m2 p2 q2 => ?_)
    refine q_pop dX12_isSo_102 (fun h => by cases h) ?_
    refine qx_iinc (L' := [(2, 188), (0, v1), (0, (v2 + 1)), (0, v3)]) dX12_isSo_103 rfl rfl rfl (o2 c1 r2 m2 p2 q2) rfl ?_
    refine q_goto (tgt := 35) dX12_isSo_106 (by decide) ?_
    refine q_kill (L' := [(2, 188), (0, v1), (0, (v2 + 1)), (4, 0)]) 3 rfl ?_
    exact l3 c1 r2 m2 p2 q2
  · skip
    refine q_aload_n dX12_isSo_50 rfl rfl ?_
    refine q_getR (ci := 12) (k := 48) dX12_isSo_51 rfl (by decide) rfl tw1231 (by decide) qs188 qw188_48 (by decide) ?_
    refine qx_iconst dX12_isSo_54 rfl rfl ?_
    refine q_iload_n dX12_isSo_55 rfl rfl ?_
    refine qx_imul dX12_isSo_56 (o4 c1).1 ?_
    refine qx_iconst dX12_isSo_57 rfl rfl ?_
    refine qx_iadd dX12_isSo_58 (o4 c1).2.1 ?_
    refine qx_iald (v := (mem 220 ((3 * v3) + 1))) dX12_isSo_59 qs220 (o4 c1).2.2 rfl ?_
    refine q_iload_n dX12_isSo_60 rfl rfl ?_
    refine qx_icmp_ne (tgt := 92) dX12_isSo_61 (by decide) (fun c3 => ?_) (fun c3 => ?_)
    · skip
      refine qx_iinc (L' := [(2, 188), (0, v1), (0, v2), (0, (v3 + 1))]) dX12_isSo_92 rfl rfl rfl (o5 c1 c3) rfl ?_
      refine q_goto (tgt := 42) dX12_isSo_95 (by decide) ?_
      exact l6 c1 c3
    · skip
      refine q_aload_n dX12_isSo_64 rfl rfl ?_
      refine q_getR (ci := 12) (k := 33) dX12_isSo_65 rfl (by decide) rfl tw1216 (by decide) qs188 qw188_33 (by decide) ?_
      refine q_aload_n dX12_isSo_68 rfl rfl ?_
      refine q_getR (ci := 12) (k := 48) dX12_isSo_69 rfl (by decide) rfl tw1231 (by decide) qs188 qw188_48 (by decide) ?_
      refine qx_iconst dX12_isSo_72 rfl rfl ?_
      refine q_iload_n dX12_isSo_73 rfl rfl ?_
      refine qx_imul dX12_isSo_74 (o4 c1).1 ?_
      refine qx_iald (v := (mem 220 (3 * v3))) dX12_isSo_75 qs220 (o7 c1 c3).1 rfl ?_
      refine qx_iald (v := (mem 207 (mem 220 (3 * v3)))) dX12_isSo_76 qs207 (o7 c1 c3).2.1 rfl ?_
      refine q_aload_n dX12_isSo_77 rfl rfl ?_
      refine q_getR (ci := 12) (k := 48) dX12_isSo_78 rfl (by decide) rfl tw1231 (by decide) qs188 qw188_48 (by decide) ?_
      refine qx_iconst dX12_isSo_81 rfl rfl ?_
      refine q_iload_n dX12_isSo_82 rfl rfl ?_
      refine qx_imul dX12_isSo_83 (o4 c1).1 ?_
      refine qx_iconst dX12_isSo_84 rfl rfl ?_
      refine qx_iadd dX12_isSo_85 (o7 c1 c3).2.2.1 ?_
      refine qx_iald (v := (mem 220 ((3 * v3) + 2))) dX12_isSo_86 qs220 (o7 c1 c3).2.2.2 rfl ?_
      refine qx_icmp_eq (tgt := 92) dX12_isSo_87 (by decide) (fun c4 => ?_) (fun c4 => ?_)
      · skip
        refine qx_iinc (L' := [(2, 188), (0, v1), (0, v2), (0, (v3 + 1))]) dX12_isSo_92 rfl rfl rfl (o8 c1 c3 c4) rfl ?_
        refine q_goto (tgt := 42) dX12_isSo_95 (by decide) ?_
        exact l9 c1 c3 c4
      · skip
        refine qx_iconst dX12_isSo_90 rfl rfl ?_
        exact q_zret dX12_isSo_91 (by decide) (qK_i (l10 c1 c3 c4))
theorem dX12_isSoWith_0 : decode cX12_isSoWith 0 = .ok (.aload_n 0, 1) := by decide +kernel
theorem dX12_isSoWith_1 : decode cX12_isSoWith 1 = .ok (.invokevirtual 312, 3) := by decide +kernel
theorem dX12_isSoWith_4 : decode cX12_isSoWith 4 = .ok (.aload_n 0, 1) := by decide +kernel
theorem dX12_isSoWith_5 : decode cX12_isSoWith 5 = .ok (.getfield 78, 3) := by decide +kernel
theorem dX12_isSoWith_8 : decode cX12_isSoWith 8 = .ok (.iload_n 1, 1) := by decide +kernel
theorem dX12_isSoWith_9 : decode cX12_isSoWith 9 = .ok (.iload_n 2, 1) := by decide +kernel
theorem dX12_isSoWith_10 : decode cX12_isSoWith 10 = .ok (.iastore, 1) := by decide +kernel
theorem dX12_isSoWith_11 : decode cX12_isSoWith 11 = .ok (.aload_n 0, 1) := by decide +kernel
theorem dX12_isSoWith_12 : decode cX12_isSoWith 12 = .ok (.invokevirtual 375, 3) := by decide +kernel
theorem dX12_isSoWith_15 : decode cX12_isSoWith 15 = .ok (.ireturn, 1) := by decide +kernel
theorem bkX12_isSoWith_0 {b : Int} {mem : qm} {Q : Int → qm → Prop}
    {j w : Int}
    {P1 : Int → qm → Prop}
    (l1 : q_Ev yX12_begin_ cX12_begin_ 2 none 1 0 0 [(2, 188)] (q_sh0, q_rb b, mem) (qK (q_rb b) (P1)))
    (o2 : ∀ (r1 : Int), ∀ (m1 : qm), P1 r1 m1 → q_in32 r1 → (0 ≤ j ∧ j < 9))
    {P2 : Int → qm → Int → qm → Prop}
    (l3 : ∀ (r1 : Int), ∀ (m1 : qm), P1 r1 m1 → q_in32 r1 → q_Ev yX12_isSo cX12_isSo 4 (some .boolean) 2 0 0 [(2, 188)] (q_sh0, q_rb b, (q_up m1 209 j w)) (qK (q_rb b) (P2 r1 m1)))
    (o4 : ∀ (r1 : Int), ∀ (m1 : qm), P1 r1 m1 → q_in32 r1 → ∀ (r2 : Int), ∀ (m2 : qm), P2 r1 m1 r2 m2 → q_in32 r2 → (r2 = 0 ∨ r2 = 1))
    (l5 : ∀ (r1 : Int), ∀ (m1 : qm), P1 r1 m1 → q_in32 r1 → ∀ (r2 : Int), ∀ (m2 : qm), P2 r1 m1 r2 m2 → q_in32 r2 → Q r2 m2) :
    q_At yX12_isSoWith cX12_isSoWith 3 (some .boolean) 3 0 0 (qK (q_rb b) Q) 0 [(2, 188), (0, j), (0, w)] [] (q_sh0, q_rb b, mem) := by
  refine q_aload_n dX12_isSoWith_0 rfl rfl ?_
  refine qx_invV (ci := 12) [] [(2, 188)] rfl qM_X12_begin_ dX12_isSoWith_1 tw1559 rfl qs188 rfl rfl rfl rfl (l1) (fun r1 m1 p1 q1 => ?_)
  refine q_aload_n dX12_isSoWith_4 rfl rfl ?_
  refine q_getR (ci := 12) (k := 35) dX12_isSoWith_5 rfl (by decide) rfl tw1218 (by decide) qs188 qw188_35 (by decide) ?_
  refine q_iload_n dX12_isSoWith_8 rfl rfl ?_
  refine q_iload_n dX12_isSoWith_9 rfl rfl ?_
  refine q_iast dX12_isSoWith_10 qs209 ((o2 r1 m1 p1 q1)).1 ((o2 r1 m1 p1 q1)).2 ?_
  refine q_aload_n dX12_isSoWith_11 rfl rfl ?_
  refine qx_invV (ci := 12) [] [(2, 188)] rfl qM_X12_isSo dX12_isSoWith_12 tw1731 rfl qs188 rfl rfl rfl rfl (l3 r1 m1 p1 q1) (fun r2 m2 p2 q2 => ?_)
  exact q_zret dX12_isSoWith_15 (o4 r1 m1 p1 q1 r2 m2 p2 q2) (qK_i (l5 r1 m1 p1 q1 r2 m2 p2 q2))
theorem dX12_holes_0 : decode cX12_holes 0 = .ok (.aload_n 0, 1) := by decide +kernel
theorem dX12_holes_1 : decode cX12_holes 1 = .ok (.iconst 0, 1) := by decide +kernel
theorem dX12_holes_2 : decode cX12_holes 2 = .ok (.putfield 128, 3) := by decide +kernel
theorem dX12_holes_5 : decode cX12_holes 5 = .ok (.aload_n 0, 1) := by decide +kernel
theorem dX12_holes_6 : decode cX12_holes 6 = .ok (.iload_n 1, 1) := by decide +kernel
theorem dX12_holes_7 : decode cX12_holes 7 = .ok (.invokevirtual 225, 3) := by decide +kernel
theorem dX12_holes_10 : decode cX12_holes 10 = .ok (.ifCond .ne 5, 3) := by decide +kernel
theorem dX12_holes_13 : decode cX12_holes 13 = .ok (.iconst (-1), 1) := by decide +kernel
theorem dX12_holes_14 : decode cX12_holes 14 = .ok (.ireturn, 1) := by decide +kernel
theorem dX12_holes_15 : decode cX12_holes 15 = .ok (.iconst 0, 1) := by decide +kernel
theorem dX12_holes_16 : decode cX12_holes 16 = .ok (.istore_n 2, 1) := by decide +kernel
theorem dX12_holes_17 : decode cX12_holes 17 = .ok (.iconst 0, 1) := by decide +kernel
theorem dX12_holes_18 : decode cX12_holes 18 = .ok (.istore_n 3, 1) := by decide +kernel
theorem dX12_holes_19 : decode cX12_holes 19 = .ok (.iload_n 3, 1) := by decide +kernel
theorem dX12_holes_20 : decode cX12_holes 20 = .ok (.bipush 9, 2) := by decide +kernel
theorem dX12_holes_22 : decode cX12_holes 22 = .ok (.if_icmp .gt 28, 3) := by decide +kernel
theorem dX12_holes_25 : decode cX12_holes 25 = .ok (.iload_n 2, 1) := by decide +kernel
theorem dX12_holes_26 : decode cX12_holes 26 = .ok (.aload_n 0, 1) := by decide +kernel
theorem dX12_holes_27 : decode cX12_holes 27 = .ok (.iload_n 1, 1) := by decide +kernel
theorem dX12_holes_28 : decode cX12_holes 28 = .ok (.iload_n 3, 1) := by decide +kernel
theorem dX12_holes_29 : decode cX12_holes 29 = .ok (.invokevirtual 378, 3) := by decide +kernel
theorem dX12_holes_32 : decode cX12_holes 32 = .ok (.ifCond .eq 9, 3) := by decide +kernel
theorem dX12_holes_35 : decode cX12_holes 35 = .ok (.iconst 1, 1) := by decide +kernel
theorem dX12_holes_36 : decode cX12_holes 36 = .ok (.iload_n 3, 1) := by decide +kernel
theorem dX12_holes_37 : decode cX12_holes 37 = .ok (.ishl, 1) := by decide +kernel
theorem dX12_holes_38 : decode cX12_holes 38 = .ok (.goto 4, 3) := by decide +kernel
theorem dX12_holes_41 : decode cX12_holes 41 = .ok (.iconst 0, 1) := by decide +kernel
theorem dX12_holes_42 : decode cX12_holes 42 = .ok (.ior, 1) := by decide +kernel
theorem dX12_holes_43 : decode cX12_holes 43 = .ok (.istore_n 2, 1) := by decide +kernel
theorem dX12_holes_44 : decode cX12_holes 44 = .ok (.iinc 3 1, 3) := by decide +kernel
theorem dX12_holes_47 : decode cX12_holes 47 = .ok (.goto (-28), 3) := by decide +kernel
theorem dX12_holes_50 : decode cX12_holes 50 = .ok (.iload_n 2, 1) := by decide +kernel
theorem dX12_holes_51 : decode cX12_holes 51 = .ok (.ireturn, 1) := by decide +kernel
theorem bkX12_holes_0 {b : Int} {mem : qm} {Q : Int → qm → Prop}
    {j : Int}
    (o1 : q_in32 ((mem 188 0) - 1))
    (l2 : (0 ≤ j ∧ j ≤ (mem 188 0) - 1) → q_At yX12_holes cX12_holes 4 (some .int) 4 0 0 (qK (q_rb b) Q) 19 [(2, 188), (0, j), (0, 0), (0, 0)] [] (q_sh0, q_rb b, (q_up mem 188 17 0)))
    (l3 : ¬ (0 ≤ j ∧ j ≤ (mem 188 0) - 1) → Q (-1) (q_up mem 188 17 0)) :
    q_At yX12_holes cX12_holes 4 (some .int) 4 0 0 (qK (q_rb b) Q) 0 [(2, 188), (0, j), (4, 0), (4, 0)] [] (q_sh0, q_rb b, mem) := by
  refine q_aload_n dX12_holes_0 rfl rfl ?_
  refine qx_iconst dX12_holes_1 rfl rfl ?_
  refine q_putI (ci := 12) (k := 17) (kI := 17) (ty := .int) dX12_holes_2 rfl (by decide) rfl tw1200 rfl rfl rfl (fun _ => ⟨rfl, rfl⟩) qs188 ?_
  refine q_aload_n dX12_holes_5 rfl rfl ?_
  refine q_iload_n dX12_holes_6 rfl rfl ?_
  refine qx_invV (ci := 12) [(0, j)] [(0, j), (2, 188)] rfl qM_X12_isJar dX12_holes_7 tw1433 rfl qs188 rfl rfl rfl rfl (spX12_isJar (by first | exact (o1) | (simp only [q_up, Int.reduceEq, false_and, true_and, and_true, and_false, ite_false, ite_true, if_true, if_false]; exact (o1)))) (fun r1 m1 p1 q1 => ?_)
  obtain ⟨p1e, ⟨p1f, p1⟩ | ⟨p1f, p1⟩⟩ := p1
  · rw [p1e, p1f]
    simp only [q_up, Int.reduceEq, false_and, true_and, and_true, and_false, ite_false, ite_true, if_true, if_false] at p1
    refine qx_if_ne (tgt := 15) dX12_holes_10 (by decide) (fun _ => ?_) (fun z => absurd z (by decide))
    refine qx_iconst dX12_holes_15 rfl rfl ?_
    refine qx_istore_n (L' := [(2, 188), (0, j), (0, 0), (4, 0)]) dX12_holes_16 rfl rfl rfl rfl ?_
    refine qx_iconst dX12_holes_17 rfl rfl ?_
    refine qx_istore_n (L' := [(2, 188), (0, j), (0, 0), (0, 0)]) dX12_holes_18 rfl rfl rfl rfl ?_
    exact l2 p1
  · rw [p1e, p1f]
    simp only [q_up, Int.reduceEq, false_and, true_and, and_true, and_false, ite_false, ite_true, if_true, if_false] at p1
    refine qx_if_ne (tgt := 15) dX12_holes_10 (by decide) (fun z => absurd z (by decide)) (fun _ => ?_)
    refine qx_iconst dX12_holes_13 rfl rfl ?_
    exact q_iret dX12_holes_14 (qK_i (l3 p1))
theorem bkX12_holes_19 {b : Int} {mem : qm} {Q : Int → qm → Prop}
    {j v2 v3 : Int}
    (l1 : 9 < v3 → Q v2 mem)
    {P2 : Int → qm → Prop}
    (l2 : v3 ≤ 9 → q_Ev yX12_isSoWith cX12_isSoWith 3 (some .boolean) 3 0 0 [(2, 188), (0, j), (0, v3)] (q_sh0, q_rb b, mem) (qK (q_rb b) (P2)))
    (o3 : v3 ≤ 9 → ∀ (r2 : Int), ∀ (m2 : qm), P2 r2 m2 → q_in32 r2 → r2 = 0 → q_in32 (v3 + 1))
    (l4 : v3 ≤ 9 → ∀ (r2 : Int), ∀ (m2 : qm), P2 r2 m2 → q_in32 r2 → r2 = 0 → q_At yX12_holes cX12_holes 4 (some .int) 4 0 0 (qK (q_rb b) Q) 19 [(2, 188), (0, j), (0, (q_oior v2 0)), (0, (v3 + 1))] [] (q_sh0, q_rb b, m2))
    (o5 : v3 ≤ 9 → ∀ (r2 : Int), ∀ (m2 : qm), P2 r2 m2 → q_in32 r2 → r2 ≠ 0 → q_in32 (v3 + 1))
    (l6 : v3 ≤ 9 → ∀ (r2 : Int), ∀ (m2 : qm), P2 r2 m2 → q_in32 r2 → r2 ≠ 0 → q_At yX12_holes cX12_holes 4 (some .int) 4 0 0 (qK (q_rb b) Q) 19 [(2, 188), (0, j), (0, (q_oior v2 (q_oishl 1 v3))), (0, (v3 + 1))] [] (q_sh0, q_rb b, m2)) :
    q_At yX12_holes cX12_holes 4 (some .int) 4 0 0 (qK (q_rb b) Q) 19 [(2, 188), (0, j), (0, v2), (0, v3)] [] (q_sh0, q_rb b, mem) := by
  refine q_iload_n dX12_holes_19 rfl rfl ?_
  refine qx_bipush dX12_holes_20 rfl rfl ?_
  refine qx_icmp_gt (tgt := 50) dX12_holes_22 (by decide) (fun c1 => ?_) (fun c1 => ?_)
  · skip
    refine q_iload_n dX12_holes_50 rfl rfl ?_
    exact q_iret dX12_holes_51 (qK_i (l1 c1))
  · skip
    refine q_iload_n dX12_holes_25 rfl rfl ?_
    refine q_aload_n dX12_holes_26 rfl rfl ?_
    refine q_iload_n dX12_holes_27 rfl rfl ?_
    refine q_iload_n dX12_holes_28 rfl rfl ?_
    refine qx_invV (ci := 12) [(0, j), (0, v3)] [(0, v3), (0, j), (2, 188), (0, v2)] rfl qM_X12_isSoWith dX12_holes_29 tw1727 rfl qs188 rfl rfl rfl rfl (l2 c1) (fun r2 m2 p2 q2 => ?_)
    refine qx_if_eq (tgt := 41) dX12_holes_32 (by decide) (fun c3 => ?_) (fun c3 => ?_)
    · skip
      refine qx_iconst dX12_holes_41 rfl rfl ?_
      refine q_ior dX12_holes_42 ?_
      refine qx_istore_n (L' := [(2, 188), (0, j), (0, (q_oior v2 0)), (0, v3)]) dX12_holes_43 rfl rfl rfl rfl ?_
      refine qx_iinc (L' := [(2, 188), (0, j), (0, (q_oior v2 0)), (0, (v3 + 1))]) dX12_holes_44 rfl rfl rfl (o3 c1 r2 m2 p2 q2 c3) rfl ?_
      refine q_goto (tgt := 19) dX12_holes_47 (by decide) ?_
      exact l4 c1 r2 m2 p2 q2 c3
    · skip
      refine qx_iconst dX12_holes_35 rfl rfl ?_
      refine q_iload_n dX12_holes_36 rfl rfl ?_
      refine q_ishl dX12_holes_37 ?_
      refine q_goto (tgt := 42) dX12_holes_38 (by decide) ?_
      refine q_ior dX12_holes_42 ?_
      refine qx_istore_n (L' := [(2, 188), (0, j), (0, (q_oior v2 (q_oishl 1 v3))), (0, v3)]) dX12_holes_43 rfl rfl rfl rfl ?_
      refine qx_iinc (L' := [(2, 188), (0, j), (0, (q_oior v2 (q_oishl 1 v3))), (0, (v3 + 1))]) dX12_holes_44 rfl rfl rfl (o5 c1 r2 m2 p2 q2 c3) rfl ?_
      refine q_goto (tgt := 19) dX12_holes_47 (by decide) ?_
      exact l6 c1 r2 m2 p2 q2 c3
theorem dX12_explains_0 : decode cX12_explains 0 = .ok (.aload_n 0, 1) := by decide +kernel
theorem dX12_explains_1 : decode cX12_explains 1 = .ok (.iconst 0, 1) := by decide +kernel
theorem dX12_explains_2 : decode cX12_explains 2 = .ok (.putfield 128, 3) := by decide +kernel
theorem dX12_explains_5 : decode cX12_explains 5 = .ok (.iconst 0, 1) := by decide +kernel
theorem dX12_explains_6 : decode cX12_explains 6 = .ok (.istore_n 1, 1) := by decide +kernel
theorem dX12_explains_7 : decode cX12_explains 7 = .ok (.aload_n 0, 1) := by decide +kernel
theorem dX12_explains_8 : decode cX12_explains 8 = .ok (.iconst 0, 1) := by decide +kernel
theorem dX12_explains_9 : decode cX12_explains 9 = .ok (.putfield 131, 3) := by decide +kernel
theorem dX12_explains_12 : decode cX12_explains 12 = .ok (.iconst 0, 1) := by decide +kernel
theorem dX12_explains_13 : decode cX12_explains 13 = .ok (.istore_n 2, 1) := by decide +kernel
theorem dX12_explains_14 : decode cX12_explains 14 = .ok (.iload_n 2, 1) := by decide +kernel
theorem dX12_explains_15 : decode cX12_explains 15 = .ok (.aload_n 0, 1) := by decide +kernel
theorem dX12_explains_16 : decode cX12_explains 16 = .ok (.getfield 134, 3) := by decide +kernel
theorem dX12_explains_19 : decode cX12_explains 19 = .ok (.if_icmp .ge 62, 3) := by decide +kernel
theorem dX12_explains_22 : decode cX12_explains 22 = .ok (.iconst 0, 1) := by decide +kernel
theorem dX12_explains_23 : decode cX12_explains 23 = .ok (.istore_n 3, 1) := by decide +kernel
theorem dX12_explains_24 : decode cX12_explains 24 = .ok (.iload_n 3, 1) := by decide +kernel
theorem dX12_explains_25 : decode cX12_explains 25 = .ok (.bipush 9, 2) := by decide +kernel
theorem dX12_explains_27 : decode cX12_explains 27 = .ok (.if_icmp .gt 48, 3) := by decide +kernel
theorem dX12_explains_30 : decode cX12_explains 30 = .ok (.iload_n 3, 1) := by decide +kernel
theorem dX12_explains_31 : decode cX12_explains 31 = .ok (.aload_n 0, 1) := by decide +kernel
theorem dX12_explains_32 : decode cX12_explains 32 = .ok (.getfield 16, 3) := by decide +kernel
theorem dX12_explains_35 : decode cX12_explains 35 = .ok (.iload_n 2, 1) := by decide +kernel
theorem dX12_explains_36 : decode cX12_explains 36 = .ok (.iaload, 1) := by decide +kernel
theorem dX12_explains_37 : decode cX12_explains 37 = .ok (.if_icmp .eq 32, 3) := by decide +kernel
theorem dX12_explains_40 : decode cX12_explains 40 = .ok (.aload_n 0, 1) := by decide +kernel
theorem dX12_explains_41 : decode cX12_explains 41 = .ok (.iload_n 2, 1) := by decide +kernel
theorem dX12_explains_42 : decode cX12_explains 42 = .ok (.iload_n 3, 1) := by decide +kernel
theorem dX12_explains_43 : decode cX12_explains 43 = .ok (.invokevirtual 378, 3) := by decide +kernel
theorem dX12_explains_46 : decode cX12_explains 46 = .ok (.ifCond .ne 6, 3) := by decide +kernel
theorem dX12_explains_49 : decode cX12_explains 49 = .ok (.goto 20, 3) := by decide +kernel
theorem dX12_explains_52 : decode cX12_explains 52 = .ok (.iload_n 1, 1) := by decide +kernel
theorem dX12_explains_53 : decode cX12_explains 53 = .ok (.ifCond .ne 13, 3) := by decide +kernel
theorem dX12_explains_56 : decode cX12_explains 56 = .ok (.aload_n 0, 1) := by decide +kernel
theorem dX12_explains_57 : decode cX12_explains 57 = .ok (.iload_n 2, 1) := by decide +kernel
theorem dX12_explains_58 : decode cX12_explains 58 = .ok (.invokevirtual 276, 3) := by decide +kernel
theorem dX12_explains_61 : decode cX12_explains 61 = .ok (.aload_n 0, 1) := by decide +kernel
theorem dX12_explains_62 : decode cX12_explains 62 = .ok (.iload_n 3, 1) := by decide +kernel
theorem dX12_explains_63 : decode cX12_explains 63 = .ok (.invokevirtual 276, 3) := by decide +kernel
theorem dX12_explains_66 : decode cX12_explains 66 = .ok (.iinc 1 1, 3) := by decide +kernel
theorem dX12_explains_69 : decode cX12_explains 69 = .ok (.iinc 3 1, 3) := by decide +kernel
theorem dX12_explains_72 : decode cX12_explains 72 = .ok (.goto (-48), 3) := by decide +kernel
theorem dX12_explains_75 : decode cX12_explains 75 = .ok (.iinc 2 1, 3) := by decide +kernel
theorem dX12_explains_78 : decode cX12_explains 78 = .ok (.goto (-64), 3) := by decide +kernel
theorem dX12_explains_81 : decode cX12_explains 81 = .ok (.aload_n 0, 1) := by decide +kernel
theorem dX12_explains_82 : decode cX12_explains 82 = .ok (.invokevirtual 312, 3) := by decide +kernel
theorem dX12_explains_85 : decode cX12_explains 85 = .ok (.aload_n 0, 1) := by decide +kernel
theorem dX12_explains_86 : decode cX12_explains 86 = .ok (.aload_n 0, 1) := by decide +kernel
theorem dX12_explains_87 : decode cX12_explains 87 = .ok (.invokevirtual 375, 3) := by decide +kernel
theorem dX12_explains_90 : decode cX12_explains 90 = .ok (.ifCond .eq 7, 3) := by decide +kernel
theorem dX12_explains_93 : decode cX12_explains 93 = .ok (.iconst 1, 1) := by decide +kernel
theorem dX12_explains_94 : decode cX12_explains 94 = .ok (.goto 4, 3) := by decide +kernel
theorem dX12_explains_97 : decode cX12_explains 97 = .ok (.iconst 0, 1) := by decide +kernel
theorem dX12_explains_98 : decode cX12_explains 98 = .ok (.invokevirtual 276, 3) := by decide +kernel
theorem dX12_explains_101 : decode cX12_explains 101 = .ok (.iload_n 1, 1) := by decide +kernel
theorem dX12_explains_102 : decode cX12_explains 102 = .ok (.ireturn, 1) := by decide +kernel
theorem bkX12_explains_0 {b : Int} {mem : qm} {Q : Int → qm → Prop}
    (l1 : q_At yX12_explains cX12_explains 4 (some .int) 4 0 0 (qK (q_rb b) Q) 14 [(2, 188), (0, 0), (0, 0), (4, 0)] [] (q_sh0, q_rb b, (q_up (q_up mem 188 17 0) 188 16 0))) :
    q_At yX12_explains cX12_explains 4 (some .int) 4 0 0 (qK (q_rb b) Q) 0 [(2, 188), (4, 0), (4, 0), (4, 0)] [] (q_sh0, q_rb b, mem) := by
  refine q_aload_n dX12_explains_0 rfl rfl ?_
  refine qx_iconst dX12_explains_1 rfl rfl ?_
  refine q_putI (ci := 12) (k := 17) (kI := 17) (ty := .int) dX12_explains_2 rfl (by decide) rfl tw1200 rfl rfl rfl (fun _ => ⟨rfl, rfl⟩) qs188 ?_
  refine qx_iconst dX12_explains_5 rfl rfl ?_
  refine qx_istore_n (L' := [(2, 188), (0, 0), (4, 0), (4, 0)]) dX12_explains_6 rfl rfl rfl rfl ?_
  refine q_aload_n dX12_explains_7 rfl rfl ?_
  refine qx_iconst dX12_explains_8 rfl rfl ?_
  refine q_putI (ci := 12) (k := 16) (kI := 16) (ty := .int) dX12_explains_9 rfl (by decide) rfl tw1199 rfl rfl rfl (fun _ => ⟨rfl, rfl⟩) qs188 ?_
  refine qx_iconst dX12_explains_12 rfl rfl ?_
  refine qx_istore_n (L' := [(2, 188), (0, 0), (0, 0), (4, 0)]) dX12_explains_13 rfl rfl rfl rfl ?_
  exact l1
theorem bkX12_explains_14 {b : Int} {mem : qm} {Q : Int → qm → Prop}
    {v1 v2 : Int}
    {P2 : Int → qm → Prop}
    (l1 : (mem 188 0) ≤ v2 → q_Ev yX12_begin_ cX12_begin_ 2 none 1 0 0 [(2, 188)] (q_sh0, q_rb b, mem) (qK (q_rb b) (P2)))
    {P3 : Int → qm → Int → qm → Prop}
    (l2 : (mem 188 0) ≤ v2 → ∀ (r2 : Int), ∀ (m2 : qm), P2 r2 m2 → q_in32 r2 → q_Ev yX12_isSo cX12_isSo 4 (some .boolean) 2 0 0 [(2, 188)] (q_sh0, q_rb b, m2) (qK (q_rb b) (P3 r2 m2)))
    (o3 : (mem 188 0) ≤ v2 → ∀ (r2 : Int), ∀ (m2 : qm), P2 r2 m2 → q_in32 r2 → ∀ (r3 : Int), ∀ (m3 : qm), P3 r2 m2 r3 m3 → q_in32 r3 → r3 = 0 → (0 ≤ (m3 188 16) ∧ (m3 188 16) < 16))
    (l4 : (mem 188 0) ≤ v2 → ∀ (r2 : Int), ∀ (m2 : qm), P2 r2 m2 → q_in32 r2 → ∀ (r3 : Int), ∀ (m3 : qm), P3 r2 m2 r3 m3 → q_in32 r3 → r3 = 0 → Q v1 (q_up (q_up m3 199 (m3 188 16) 0) 188 16 ((m3 188 16) + 1)))
    (o5 : (mem 188 0) ≤ v2 → ∀ (r2 : Int), ∀ (m2 : qm), P2 r2 m2 → q_in32 r2 → ∀ (r3 : Int), ∀ (m3 : qm), P3 r2 m2 r3 m3 → q_in32 r3 → r3 ≠ 0 → (0 ≤ (m3 188 16) ∧ (m3 188 16) < 16))
    (l6 : (mem 188 0) ≤ v2 → ∀ (r2 : Int), ∀ (m2 : qm), P2 r2 m2 → q_in32 r2 → ∀ (r3 : Int), ∀ (m3 : qm), P3 r2 m2 r3 m3 → q_in32 r3 → r3 ≠ 0 → Q v1 (q_up (q_up m3 199 (m3 188 16) 1) 188 16 ((m3 188 16) + 1)))
    (l7 : v2 < (mem 188 0) → q_At yX12_explains cX12_explains 4 (some .int) 4 0 0 (qK (q_rb b) Q) 24 [(2, 188), (0, v1), (0, v2), (0, 0)] [] (q_sh0, q_rb b, mem)) :
    q_At yX12_explains cX12_explains 4 (some .int) 4 0 0 (qK (q_rb b) Q) 14 [(2, 188), (0, v1), (0, v2), (4, 0)] [] (q_sh0, q_rb b, mem) := by
  refine q_iload_n dX12_explains_14 rfl rfl ?_
  refine q_aload_n dX12_explains_15 rfl rfl ?_
  refine qx_getI (ci := 12) (k := 0) (v := (mem 188 0)) dX12_explains_16 rfl rfl rfl tw1183 rfl qs188 rfl ?_
  refine qx_icmp_ge (tgt := 81) dX12_explains_19 (by decide) (fun c1 => ?_) (fun c1 => ?_)
  · skip
    refine q_aload_n dX12_explains_81 rfl rfl ?_
    refine qx_invV (ci := 12) [] [(2, 188)] rfl qM_X12_begin_ dX12_explains_82 tw1559 rfl qs188 rfl rfl rfl rfl (l1 c1) (fun r2 m2 p2 q2 => ?_)
    refine q_aload_n dX12_explains_85 rfl rfl ?_
    refine q_aload_n dX12_explains_86 rfl rfl ?_
    refine qx_invV (ci := 12) [] [(2, 188), (2, 188)] rfl qM_X12_isSo dX12_explains_87 tw1731 rfl qs188 rfl rfl rfl rfl (l2 c1 r2 m2 p2 q2) (fun r3 m3 p3 q3 => ?_)
    refine qx_if_eq (tgt := 97) dX12_explains_90 (by decide) (fun c4 => ?_) (fun c4 => ?_)
    · skip
      refine qx_iconst dX12_explains_97 rfl rfl ?_
      refine qx_invV (ci := 12) [(0, 0)] [(0, 0), (2, 188)] rfl qM_X12_tell dX12_explains_98 tw1509 rfl qs188 rfl rfl rfl rfl (spX12_tell (o3 c1 r2 m2 p2 q2 r3 m3 p3 q3 c4)) (fun r5 m5 p5 q5 => ?_)
      obtain rfl := p5
      refine q_iload_n dX12_explains_101 rfl rfl ?_
      exact q_iret dX12_explains_102 (qK_i (l4 c1 r2 m2 p2 q2 r3 m3 p3 q3 c4))
    · skip
      refine qx_iconst dX12_explains_93 rfl rfl ?_
      refine q_goto (tgt := 98) dX12_explains_94 (by decide) ?_
      refine qx_invV (ci := 12) [(0, 1)] [(0, 1), (2, 188)] rfl qM_X12_tell dX12_explains_98 tw1509 rfl qs188 rfl rfl rfl rfl (spX12_tell (o5 c1 r2 m2 p2 q2 r3 m3 p3 q3 c4)) (fun r6 m6 p6 q6 => ?_)
      obtain rfl := p6
      refine q_iload_n dX12_explains_101 rfl rfl ?_
      exact q_iret dX12_explains_102 (qK_i (l6 c1 r2 m2 p2 q2 r3 m3 p3 q3 c4))
  · skip
    refine qx_iconst dX12_explains_22 rfl rfl ?_
    refine qx_istore_n (L' := [(2, 188), (0, v1), (0, v2), (0, 0)]) dX12_explains_23 rfl rfl rfl rfl ?_
    exact l7 c1
theorem bkX12_explains_24 {b : Int} {mem : qm} {Q : Int → qm → Prop}
    {v1 v2 v3 : Int}
    (o1 : 9 < v3 → q_in32 (v2 + 1))
    (l2 : 9 < v3 → q_At yX12_explains cX12_explains 4 (some .int) 4 0 0 (qK (q_rb b) Q) 14 [(2, 188), (0, v1), (0, (v2 + 1)), (4, 0)] [] (q_sh0, q_rb b, mem))
    (o3 : v3 ≤ 9 → (0 ≤ v2 ∧ v2 < 9))
    (o4 : v3 ≤ 9 → v3 = (mem 191 v2) → q_in32 (v3 + 1))
    (l5 : v3 ≤ 9 → v3 = (mem 191 v2) → q_At yX12_explains cX12_explains 4 (some .int) 4 0 0 (qK (q_rb b) Q) 24 [(2, 188), (0, v1), (0, v2), (0, (v3 + 1))] [] (q_sh0, q_rb b, mem))
    {P3 : Int → qm → Prop}
    (l6 : v3 ≤ 9 → v3 ≠ (mem 191 v2) → q_Ev yX12_isSoWith cX12_isSoWith 3 (some .boolean) 3 0 0 [(2, 188), (0, v2), (0, v3)] (q_sh0, q_rb b, mem) (qK (q_rb b) (P3)))
    (o7 : v3 ≤ 9 → v3 ≠ (mem 191 v2) → ∀ (r3 : Int), ∀ (m3 : qm), P3 r3 m3 → q_in32 r3 → r3 ≠ 0 → v1 ≠ 0 → q_in32 (v1 + 1) ∧ q_in32 (v3 + 1))
    (l8 : v3 ≤ 9 → v3 ≠ (mem 191 v2) → ∀ (r3 : Int), ∀ (m3 : qm), P3 r3 m3 → q_in32 r3 → r3 ≠ 0 → v1 ≠ 0 → q_At yX12_explains cX12_explains 4 (some .int) 4 0 0 (qK (q_rb b) Q) 24 [(2, 188), (0, (v1 + 1)), (0, v2), (0, (v3 + 1))] [] (q_sh0, q_rb b, m3))
    (o9 : v3 ≤ 9 → v3 ≠ (mem 191 v2) → ∀ (r3 : Int), ∀ (m3 : qm), P3 r3 m3 → q_in32 r3 → r3 ≠ 0 → v1 = 0 → (0 ≤ (m3 188 16) ∧ (m3 188 16) < 16) ∧ (0 ≤ ((m3 188 16) + 1) ∧ ((m3 188 16) + 1) < 16) ∧ q_in32 (v1 + 1) ∧ q_in32 (v3 + 1))
    (l10 : v3 ≤ 9 → v3 ≠ (mem 191 v2) → ∀ (r3 : Int), ∀ (m3 : qm), P3 r3 m3 → q_in32 r3 → r3 ≠ 0 → v1 = 0 → q_At yX12_explains cX12_explains 4 (some .int) 4 0 0 (qK (q_rb b) Q) 24 [(2, 188), (0, (v1 + 1)), (0, v2), (0, (v3 + 1))] [] (q_sh0, q_rb b, (q_up (q_up (q_up (q_up m3 199 (m3 188 16) v2) 188 16 ((m3 188 16) + 1)) 199 ((m3 188 16) + 1) v3) 188 16 (((m3 188 16) + 1) + 1))))
    (o11 : v3 ≤ 9 → v3 ≠ (mem 191 v2) → ∀ (r3 : Int), ∀ (m3 : qm), P3 r3 m3 → q_in32 r3 → r3 = 0 → q_in32 (v3 + 1))
    (l12 : v3 ≤ 9 → v3 ≠ (mem 191 v2) → ∀ (r3 : Int), ∀ (m3 : qm), P3 r3 m3 → q_in32 r3 → r3 = 0 → q_At yX12_explains cX12_explains 4 (some .int) 4 0 0 (qK (q_rb b) Q) 24 [(2, 188), (0, v1), (0, v2), (0, (v3 + 1))] [] (q_sh0, q_rb b, m3)) :
    q_At yX12_explains cX12_explains 4 (some .int) 4 0 0 (qK (q_rb b) Q) 24 [(2, 188), (0, v1), (0, v2), (0, v3)] [] (q_sh0, q_rb b, mem) := by
  refine q_iload_n dX12_explains_24 rfl rfl ?_
  refine qx_bipush dX12_explains_25 rfl rfl ?_
  refine qx_icmp_gt (tgt := 75) dX12_explains_27 (by decide) (fun c1 => ?_) (fun c1 => ?_)
  · skip
    refine qx_iinc (L' := [(2, 188), (0, v1), (0, (v2 + 1)), (0, v3)]) dX12_explains_75 rfl rfl rfl (o1 c1) rfl ?_
    refine q_goto (tgt := 14) dX12_explains_78 (by decide) ?_
    refine q_kill (L' := [(2, 188), (0, v1), (0, (v2 + 1)), (4, 0)]) 3 rfl ?_
    exact l2 c1
  · skip
    refine q_iload_n dX12_explains_30 rfl rfl ?_
    refine q_aload_n dX12_explains_31 rfl rfl ?_
    refine q_getR (ci := 12) (k := 3) dX12_explains_32 rfl (by decide) rfl tw1186 (by decide) qs188 qw188_3 (by decide) ?_
    refine q_iload_n dX12_explains_35 rfl rfl ?_
    refine qx_iald (v := (mem 191 v2)) dX12_explains_36 qs191 (o3 c1) rfl ?_
    refine qx_icmp_eq (tgt := 69) dX12_explains_37 (by decide) (fun c2 => ?_) (fun c2 => ?_)
    · skip
      refine qx_iinc (L' := [(2, 188), (0, v1), (0, v2), (0, (v3 + 1))]) dX12_explains_69 rfl rfl rfl (o4 c1 c2) rfl ?_
      refine q_goto (tgt := 24) dX12_explains_72 (by decide) ?_
      exact l5 c1 c2
    · skip
      refine q_aload_n dX12_explains_40 rfl rfl ?_
      refine q_iload_n dX12_explains_41 rfl rfl ?_
      refine q_iload_n dX12_explains_42 rfl rfl ?_
      refine qx_invV (ci := 12) [(0, v2), (0, v3)] [(0, v3), (0, v2), (2, 188)] rfl qM_X12_isSoWith dX12_explains_43 tw1727 rfl qs188 rfl rfl rfl rfl (l6 c1 c2) (fun r3 m3 p3 q3 => ?_)
      refine qx_if_ne (tgt := 52) dX12_explains_46 (by decide) (fun c4 => ?_) (fun c4 => ?_)
      · skip
        refine q_iload_n dX12_explains_52 rfl rfl ?_
        refine qx_if_ne (tgt := 66) dX12_explains_53 (by decide) (fun c5 => ?_) (fun c5 => ?_)
        · skip
          refine qx_iinc (L' := [(2, 188), (0, (v1 + 1)), (0, v2), (0, v3)]) dX12_explains_66 rfl rfl rfl (o7 c1 c2 r3 m3 p3 q3 c4 c5).1 rfl ?_
          refine qx_iinc (L' := [(2, 188), (0, (v1 + 1)), (0, v2), (0, (v3 + 1))]) dX12_explains_69 rfl rfl rfl (o7 c1 c2 r3 m3 p3 q3 c4 c5).2 rfl ?_
          refine q_goto (tgt := 24) dX12_explains_72 (by decide) ?_
          exact l8 c1 c2 r3 m3 p3 q3 c4 c5
        · skip
          refine q_aload_n dX12_explains_56 rfl rfl ?_
          refine q_iload_n dX12_explains_57 rfl rfl ?_
          refine qx_invV (ci := 12) [(0, v2)] [(0, v2), (2, 188)] rfl qM_X12_tell dX12_explains_58 tw1509 rfl qs188 rfl rfl rfl rfl (spX12_tell (o9 c1 c2 r3 m3 p3 q3 c4 c5).1) (fun r6 m6 p6 q6 => ?_)
          obtain rfl := p6
          refine q_aload_n dX12_explains_61 rfl rfl ?_
          refine q_iload_n dX12_explains_62 rfl rfl ?_
          refine qx_invV (ci := 12) [(0, v3)] [(0, v3), (2, 188)] rfl qM_X12_tell dX12_explains_63 tw1509 rfl qs188 rfl rfl rfl rfl (spX12_tell (by first | exact (o9 c1 c2 r3 m3 p3 q3 c4 c5).2.1 | (simp only [q_up, Int.reduceEq, false_and, true_and, and_true, and_false, ite_false, ite_true, if_true, if_false]; exact (o9 c1 c2 r3 m3 p3 q3 c4 c5).2.1))) (fun r7 m7 p7 q7 => ?_)
          obtain rfl := p7
          refine qx_iinc (L' := [(2, 188), (0, (v1 + 1)), (0, v2), (0, v3)]) dX12_explains_66 rfl rfl rfl (o9 c1 c2 r3 m3 p3 q3 c4 c5).2.2.1 rfl ?_
          refine qx_iinc (L' := [(2, 188), (0, (v1 + 1)), (0, v2), (0, (v3 + 1))]) dX12_explains_69 rfl rfl rfl (o9 c1 c2 r3 m3 p3 q3 c4 c5).2.2.2 rfl ?_
          refine q_goto (tgt := 24) dX12_explains_72 (by decide) ?_
          exact l10 c1 c2 r3 m3 p3 q3 c4 c5
      · skip
        refine q_goto (tgt := 69) dX12_explains_49 (by decide) ?_
        refine qx_iinc (L' := [(2, 188), (0, v1), (0, v2), (0, (v3 + 1))]) dX12_explains_69 rfl rfl rfl (o11 c1 c2 r3 m3 p3 q3 c4) rfl ?_
        refine q_goto (tgt := 24) dX12_explains_72 (by decide) ?_
        exact l12 c1 c2 r3 m3 p3 q3 c4
theorem dX12_secret_0 : decode cX12_secret 0 = .ok (.aload_n 0, 1) := by decide +kernel
theorem dX12_secret_1 : decode cX12_secret 1 = .ok (.iconst 0, 1) := by decide +kernel
theorem dX12_secret_2 : decode cX12_secret 2 = .ok (.putfield 128, 3) := by decide +kernel
theorem dX12_secret_5 : decode cX12_secret 5 = .ok (.iconst 0, 1) := by decide +kernel
theorem dX12_secret_6 : decode cX12_secret 6 = .ok (.istore_n 1, 1) := by decide +kernel
theorem dX12_secret_7 : decode cX12_secret 7 = .ok (.aload_n 0, 1) := by decide +kernel
theorem dX12_secret_8 : decode cX12_secret 8 = .ok (.iconst 0, 1) := by decide +kernel
theorem dX12_secret_9 : decode cX12_secret 9 = .ok (.putfield 131, 3) := by decide +kernel
theorem dX12_secret_12 : decode cX12_secret 12 = .ok (.iconst 0, 1) := by decide +kernel
theorem dX12_secret_13 : decode cX12_secret 13 = .ok (.istore_n 2, 1) := by decide +kernel
theorem dX12_secret_14 : decode cX12_secret 14 = .ok (.iload_n 2, 1) := by decide +kernel
theorem dX12_secret_15 : decode cX12_secret 15 = .ok (.aload_n 0, 1) := by decide +kernel
theorem dX12_secret_16 : decode cX12_secret 16 = .ok (.getfield 134, 3) := by decide +kernel
theorem dX12_secret_19 : decode cX12_secret 19 = .ok (.if_icmp .ge 75, 3) := by decide +kernel
theorem dX12_secret_22 : decode cX12_secret 22 = .ok (.iconst 1, 1) := by decide +kernel
theorem dX12_secret_23 : decode cX12_secret 23 = .ok (.istore_n 3, 1) := by decide +kernel
theorem dX12_secret_24 : decode cX12_secret 24 = .ok (.iload_n 3, 1) := by decide +kernel
theorem dX12_secret_25 : decode cX12_secret 25 = .ok (.aload_n 0, 1) := by decide +kernel
theorem dX12_secret_26 : decode cX12_secret 26 = .ok (.getfield 9, 3) := by decide +kernel
theorem dX12_secret_29 : decode cX12_secret 29 = .ok (.iload_n 2, 1) := by decide +kernel
theorem dX12_secret_30 : decode cX12_secret 30 = .ok (.iaload, 1) := by decide +kernel
theorem dX12_secret_31 : decode cX12_secret 31 = .ok (.aload_n 0, 1) := by decide +kernel
theorem dX12_secret_32 : decode cX12_secret 32 = .ok (.getfield 13, 3) := by decide +kernel
theorem dX12_secret_35 : decode cX12_secret 35 = .ok (.iload_n 2, 1) := by decide +kernel
theorem dX12_secret_36 : decode cX12_secret 36 = .ok (.iaload, 1) := by decide +kernel
theorem dX12_secret_37 : decode cX12_secret 37 = .ok (.isub, 1) := by decide +kernel
theorem dX12_secret_38 : decode cX12_secret 38 = .ok (.if_icmp .gt 50, 3) := by decide +kernel
theorem dX12_secret_41 : decode cX12_secret 41 = .ok (.aload_n 0, 1) := by decide +kernel
theorem dX12_secret_42 : decode cX12_secret 42 = .ok (.invokevirtual 312, 3) := by decide +kernel
theorem dX12_secret_45 : decode cX12_secret 45 = .ok (.aload_n 0, 1) := by decide +kernel
theorem dX12_secret_46 : decode cX12_secret 46 = .ok (.getfield 72, 3) := by decide +kernel
theorem dX12_secret_49 : decode cX12_secret 49 = .ok (.iload_n 2, 1) := by decide +kernel
theorem dX12_secret_50 : decode cX12_secret 50 = .ok (.dup2, 1) := by decide +kernel
theorem dX12_secret_51 : decode cX12_secret 51 = .ok (.iaload, 1) := by decide +kernel
theorem dX12_secret_52 : decode cX12_secret 52 = .ok (.iload_n 3, 1) := by decide +kernel
theorem dX12_secret_53 : decode cX12_secret 53 = .ok (.iadd, 1) := by decide +kernel
theorem dX12_secret_54 : decode cX12_secret 54 = .ok (.iastore, 1) := by decide +kernel
theorem dX12_secret_55 : decode cX12_secret 55 = .ok (.aload_n 0, 1) := by decide +kernel
theorem dX12_secret_56 : decode cX12_secret 56 = .ok (.invokevirtual 375, 3) := by decide +kernel
theorem dX12_secret_59 : decode cX12_secret 59 = .ok (.ifCond .ne 6, 3) := by decide +kernel
theorem dX12_secret_62 : decode cX12_secret 62 = .ok (.goto 20, 3) := by decide +kernel
theorem dX12_secret_65 : decode cX12_secret 65 = .ok (.iload_n 1, 1) := by decide +kernel
theorem dX12_secret_66 : decode cX12_secret 66 = .ok (.ifCond .ne 13, 3) := by decide +kernel
theorem dX12_secret_69 : decode cX12_secret 69 = .ok (.aload_n 0, 1) := by decide +kernel
theorem dX12_secret_70 : decode cX12_secret 70 = .ok (.iload_n 2, 1) := by decide +kernel
theorem dX12_secret_71 : decode cX12_secret 71 = .ok (.invokevirtual 276, 3) := by decide +kernel
theorem dX12_secret_74 : decode cX12_secret 74 = .ok (.aload_n 0, 1) := by decide +kernel
theorem dX12_secret_75 : decode cX12_secret 75 = .ok (.iload_n 3, 1) := by decide +kernel
theorem dX12_secret_76 : decode cX12_secret 76 = .ok (.invokevirtual 276, 3) := by decide +kernel
theorem dX12_secret_79 : decode cX12_secret 79 = .ok (.iinc 1 1, 3) := by decide +kernel
theorem dX12_secret_82 : decode cX12_secret 82 = .ok (.iinc 3 1, 3) := by decide +kernel
theorem dX12_secret_85 : decode cX12_secret 85 = .ok (.goto (-61), 3) := by decide +kernel
theorem dX12_secret_88 : decode cX12_secret 88 = .ok (.iinc 2 1, 3) := by decide +kernel
theorem dX12_secret_91 : decode cX12_secret 91 = .ok (.goto (-77), 3) := by decide +kernel
theorem dX12_secret_94 : decode cX12_secret 94 = .ok (.iload_n 1, 1) := by decide +kernel
theorem dX12_secret_95 : decode cX12_secret 95 = .ok (.ireturn, 1) := by decide +kernel
theorem bkX12_secret_0 {b : Int} {mem : qm} {Q : Int → qm → Prop}
    (l1 : q_At yX12_secret cX12_secret 4 (some .int) 3 0 0 (qK (q_rb b) Q) 14 [(2, 188), (0, 0), (0, 0), (4, 0)] [] (q_sh0, q_rb b, (q_up (q_up mem 188 17 0) 188 16 0))) :
    q_At yX12_secret cX12_secret 4 (some .int) 3 0 0 (qK (q_rb b) Q) 0 [(2, 188), (4, 0), (4, 0), (4, 0)] [] (q_sh0, q_rb b, mem) := by
  refine q_aload_n dX12_secret_0 rfl rfl ?_
  refine qx_iconst dX12_secret_1 rfl rfl ?_
  refine q_putI (ci := 12) (k := 17) (kI := 17) (ty := .int) dX12_secret_2 rfl (by decide) rfl tw1200 rfl rfl rfl (fun _ => ⟨rfl, rfl⟩) qs188 ?_
  refine qx_iconst dX12_secret_5 rfl rfl ?_
  refine qx_istore_n (L' := [(2, 188), (0, 0), (4, 0), (4, 0)]) dX12_secret_6 rfl rfl rfl rfl ?_
  refine q_aload_n dX12_secret_7 rfl rfl ?_
  refine qx_iconst dX12_secret_8 rfl rfl ?_
  refine q_putI (ci := 12) (k := 16) (kI := 16) (ty := .int) dX12_secret_9 rfl (by decide) rfl tw1199 rfl rfl rfl (fun _ => ⟨rfl, rfl⟩) qs188 ?_
  refine qx_iconst dX12_secret_12 rfl rfl ?_
  refine qx_istore_n (L' := [(2, 188), (0, 0), (0, 0), (4, 0)]) dX12_secret_13 rfl rfl rfl rfl ?_
  exact l1
theorem bkX12_secret_14 {b : Int} {mem : qm} {Q : Int → qm → Prop}
    {v1 v2 : Int}
    (l1 : (mem 188 0) ≤ v2 → Q v1 mem)
    (l2 : v2 < (mem 188 0) → q_At yX12_secret cX12_secret 4 (some .int) 3 0 0 (qK (q_rb b) Q) 24 [(2, 188), (0, v1), (0, v2), (0, 1)] [] (q_sh0, q_rb b, mem)) :
    q_At yX12_secret cX12_secret 4 (some .int) 3 0 0 (qK (q_rb b) Q) 14 [(2, 188), (0, v1), (0, v2), (4, 0)] [] (q_sh0, q_rb b, mem) := by
  refine q_iload_n dX12_secret_14 rfl rfl ?_
  refine q_aload_n dX12_secret_15 rfl rfl ?_
  refine qx_getI (ci := 12) (k := 0) (v := (mem 188 0)) dX12_secret_16 rfl rfl rfl tw1183 rfl qs188 rfl ?_
  refine qx_icmp_ge (tgt := 94) dX12_secret_19 (by decide) (fun c1 => ?_) (fun c1 => ?_)
  · skip
    refine q_iload_n dX12_secret_94 rfl rfl ?_
    exact q_iret dX12_secret_95 (qK_i (l1 c1))
  · skip
    refine qx_iconst dX12_secret_22 rfl rfl ?_
    refine qx_istore_n (L' := [(2, 188), (0, v1), (0, v2), (0, 1)]) dX12_secret_23 rfl rfl rfl rfl ?_
    exact l2 c1
theorem bkX12_secret_24 {b : Int} {mem : qm} {Q : Int → qm → Prop}
    {v1 v2 v3 : Int}
    (o1 : (0 ≤ v2 ∧ v2 < 9) ∧ q_in32 ((mem 189 v2) - (mem 190 v2)))
    (o2 : ((mem 189 v2) - (mem 190 v2)) < v3 → q_in32 (v2 + 1))
    (l3 : ((mem 189 v2) - (mem 190 v2)) < v3 → q_At yX12_secret cX12_secret 4 (some .int) 3 0 0 (qK (q_rb b) Q) 14 [(2, 188), (0, v1), (0, (v2 + 1)), (4, 0)] [] (q_sh0, q_rb b, mem))
    {P2 : Int → qm → Prop}
    (l4 : v3 ≤ ((mem 189 v2) - (mem 190 v2)) → q_Ev yX12_begin_ cX12_begin_ 2 none 1 0 0 [(2, 188)] (q_sh0, q_rb b, mem) (qK (q_rb b) (P2)))
    (o5 : v3 ≤ ((mem 189 v2) - (mem 190 v2)) → ∀ (r2 : Int), ∀ (m2 : qm), P2 r2 m2 → q_in32 r2 → q_in32 ((m2 207 v2) + v3))
    {P3 : Int → qm → Int → qm → Prop}
    (l6 : v3 ≤ ((mem 189 v2) - (mem 190 v2)) → ∀ (r2 : Int), ∀ (m2 : qm), P2 r2 m2 → q_in32 r2 → q_Ev yX12_isSo cX12_isSo 4 (some .boolean) 2 0 0 [(2, 188)] (q_sh0, q_rb b, (q_up m2 207 v2 ((m2 207 v2) + v3))) (qK (q_rb b) (P3 r2 m2)))
    (o7 : v3 ≤ ((mem 189 v2) - (mem 190 v2)) → ∀ (r2 : Int), ∀ (m2 : qm), P2 r2 m2 → q_in32 r2 → ∀ (r3 : Int), ∀ (m3 : qm), P3 r2 m2 r3 m3 → q_in32 r3 → r3 ≠ 0 → v1 ≠ 0 → q_in32 (v1 + 1) ∧ q_in32 (v3 + 1))
    (l8 : v3 ≤ ((mem 189 v2) - (mem 190 v2)) → ∀ (r2 : Int), ∀ (m2 : qm), P2 r2 m2 → q_in32 r2 → ∀ (r3 : Int), ∀ (m3 : qm), P3 r2 m2 r3 m3 → q_in32 r3 → r3 ≠ 0 → v1 ≠ 0 → q_At yX12_secret cX12_secret 4 (some .int) 3 0 0 (qK (q_rb b) Q) 24 [(2, 188), (0, (v1 + 1)), (0, v2), (0, (v3 + 1))] [] (q_sh0, q_rb b, m3))
    (o9 : v3 ≤ ((mem 189 v2) - (mem 190 v2)) → ∀ (r2 : Int), ∀ (m2 : qm), P2 r2 m2 → q_in32 r2 → ∀ (r3 : Int), ∀ (m3 : qm), P3 r2 m2 r3 m3 → q_in32 r3 → r3 ≠ 0 → v1 = 0 → (0 ≤ (m3 188 16) ∧ (m3 188 16) < 16) ∧ (0 ≤ ((m3 188 16) + 1) ∧ ((m3 188 16) + 1) < 16) ∧ q_in32 (v1 + 1) ∧ q_in32 (v3 + 1))
    (l10 : v3 ≤ ((mem 189 v2) - (mem 190 v2)) → ∀ (r2 : Int), ∀ (m2 : qm), P2 r2 m2 → q_in32 r2 → ∀ (r3 : Int), ∀ (m3 : qm), P3 r2 m2 r3 m3 → q_in32 r3 → r3 ≠ 0 → v1 = 0 → q_At yX12_secret cX12_secret 4 (some .int) 3 0 0 (qK (q_rb b) Q) 24 [(2, 188), (0, (v1 + 1)), (0, v2), (0, (v3 + 1))] [] (q_sh0, q_rb b, (q_up (q_up (q_up (q_up m3 199 (m3 188 16) v2) 188 16 ((m3 188 16) + 1)) 199 ((m3 188 16) + 1) v3) 188 16 (((m3 188 16) + 1) + 1))))
    (o11 : v3 ≤ ((mem 189 v2) - (mem 190 v2)) → ∀ (r2 : Int), ∀ (m2 : qm), P2 r2 m2 → q_in32 r2 → ∀ (r3 : Int), ∀ (m3 : qm), P3 r2 m2 r3 m3 → q_in32 r3 → r3 = 0 → q_in32 (v3 + 1))
    (l12 : v3 ≤ ((mem 189 v2) - (mem 190 v2)) → ∀ (r2 : Int), ∀ (m2 : qm), P2 r2 m2 → q_in32 r2 → ∀ (r3 : Int), ∀ (m3 : qm), P3 r2 m2 r3 m3 → q_in32 r3 → r3 = 0 → q_At yX12_secret cX12_secret 4 (some .int) 3 0 0 (qK (q_rb b) Q) 24 [(2, 188), (0, v1), (0, v2), (0, (v3 + 1))] [] (q_sh0, q_rb b, m3)) :
    q_At yX12_secret cX12_secret 4 (some .int) 3 0 0 (qK (q_rb b) Q) 24 [(2, 188), (0, v1), (0, v2), (0, v3)] [] (q_sh0, q_rb b, mem) := by
  refine q_iload_n dX12_secret_24 rfl rfl ?_
  refine q_aload_n dX12_secret_25 rfl rfl ?_
  refine q_getR (ci := 12) (k := 1) dX12_secret_26 rfl (by decide) rfl tw1184 (by decide) qs188 qw188_1 (by decide) ?_
  refine q_iload_n dX12_secret_29 rfl rfl ?_
  refine qx_iald (v := (mem 189 v2)) dX12_secret_30 qs189 (o1).1 rfl ?_
  refine q_aload_n dX12_secret_31 rfl rfl ?_
  refine q_getR (ci := 12) (k := 2) dX12_secret_32 rfl (by decide) rfl tw1185 (by decide) qs188 qw188_2 (by decide) ?_
  refine q_iload_n dX12_secret_35 rfl rfl ?_
  refine qx_iald (v := (mem 190 v2)) dX12_secret_36 qs190 (o1).1 rfl ?_
  refine qx_isub dX12_secret_37 (o1).2 ?_
  refine qx_icmp_gt (tgt := 88) dX12_secret_38 (by decide) (fun c1 => ?_) (fun c1 => ?_)
  · skip
    refine qx_iinc (L' := [(2, 188), (0, v1), (0, (v2 + 1)), (0, v3)]) dX12_secret_88 rfl rfl rfl (o2 c1) rfl ?_
    refine q_goto (tgt := 14) dX12_secret_91 (by decide) ?_
    refine q_kill (L' := [(2, 188), (0, v1), (0, (v2 + 1)), (4, 0)]) 3 rfl ?_
    exact l3 c1
  · skip
    refine q_aload_n dX12_secret_41 rfl rfl ?_
    refine qx_invV (ci := 12) [] [(2, 188)] rfl qM_X12_begin_ dX12_secret_42 tw1559 rfl qs188 rfl rfl rfl rfl (l4 c1) (fun r2 m2 p2 q2 => ?_)
    refine q_aload_n dX12_secret_45 rfl rfl ?_
    refine q_getR (ci := 12) (k := 33) dX12_secret_46 rfl (by decide) rfl tw1216 (by decide) qs188 qw188_33 (by decide) ?_
    refine q_iload_n dX12_secret_49 rfl rfl ?_
    refine q_dup2 dX12_secret_50 (fun h => by cases h) (fun h => by cases h) ?_
    refine qx_iald (v := (m2 207 v2)) dX12_secret_51 qs207 (o1).1 rfl ?_
    refine q_iload_n dX12_secret_52 rfl rfl ?_
    refine qx_iadd dX12_secret_53 (o5 c1 r2 m2 p2 q2) ?_
    refine q_iast dX12_secret_54 qs207 ((o1).1).1 ((o1).1).2 ?_
    refine q_aload_n dX12_secret_55 rfl rfl ?_
    refine qx_invV (ci := 12) [] [(2, 188)] rfl qM_X12_isSo dX12_secret_56 tw1731 rfl qs188 rfl rfl rfl rfl (l6 c1 r2 m2 p2 q2) (fun r3 m3 p3 q3 => ?_)
    refine qx_if_ne (tgt := 65) dX12_secret_59 (by decide) (fun c4 => ?_) (fun c4 => ?_)
    · skip
      refine q_iload_n dX12_secret_65 rfl rfl ?_
      refine qx_if_ne (tgt := 79) dX12_secret_66 (by decide) (fun c5 => ?_) (fun c5 => ?_)
      · skip
        refine qx_iinc (L' := [(2, 188), (0, (v1 + 1)), (0, v2), (0, v3)]) dX12_secret_79 rfl rfl rfl (o7 c1 r2 m2 p2 q2 r3 m3 p3 q3 c4 c5).1 rfl ?_
        refine qx_iinc (L' := [(2, 188), (0, (v1 + 1)), (0, v2), (0, (v3 + 1))]) dX12_secret_82 rfl rfl rfl (o7 c1 r2 m2 p2 q2 r3 m3 p3 q3 c4 c5).2 rfl ?_
        refine q_goto (tgt := 24) dX12_secret_85 (by decide) ?_
        exact l8 c1 r2 m2 p2 q2 r3 m3 p3 q3 c4 c5
      · skip
        refine q_aload_n dX12_secret_69 rfl rfl ?_
        refine q_iload_n dX12_secret_70 rfl rfl ?_
        refine qx_invV (ci := 12) [(0, v2)] [(0, v2), (2, 188)] rfl qM_X12_tell dX12_secret_71 tw1509 rfl qs188 rfl rfl rfl rfl (spX12_tell (o9 c1 r2 m2 p2 q2 r3 m3 p3 q3 c4 c5).1) (fun r6 m6 p6 q6 => ?_)
        obtain rfl := p6
        refine q_aload_n dX12_secret_74 rfl rfl ?_
        refine q_iload_n dX12_secret_75 rfl rfl ?_
        refine qx_invV (ci := 12) [(0, v3)] [(0, v3), (2, 188)] rfl qM_X12_tell dX12_secret_76 tw1509 rfl qs188 rfl rfl rfl rfl (spX12_tell (by first | exact (o9 c1 r2 m2 p2 q2 r3 m3 p3 q3 c4 c5).2.1 | (simp only [q_up, Int.reduceEq, false_and, true_and, and_true, and_false, ite_false, ite_true, if_true, if_false]; exact (o9 c1 r2 m2 p2 q2 r3 m3 p3 q3 c4 c5).2.1))) (fun r7 m7 p7 q7 => ?_)
        obtain rfl := p7
        refine qx_iinc (L' := [(2, 188), (0, (v1 + 1)), (0, v2), (0, v3)]) dX12_secret_79 rfl rfl rfl (o9 c1 r2 m2 p2 q2 r3 m3 p3 q3 c4 c5).2.2.1 rfl ?_
        refine qx_iinc (L' := [(2, 188), (0, (v1 + 1)), (0, v2), (0, (v3 + 1))]) dX12_secret_82 rfl rfl rfl (o9 c1 r2 m2 p2 q2 r3 m3 p3 q3 c4 c5).2.2.2 rfl ?_
        refine q_goto (tgt := 24) dX12_secret_85 (by decide) ?_
        exact l10 c1 r2 m2 p2 q2 r3 m3 p3 q3 c4 c5
    · skip
      refine q_goto (tgt := 82) dX12_secret_62 (by decide) ?_
      refine qx_iinc (L' := [(2, 188), (0, v1), (0, v2), (0, (v3 + 1))]) dX12_secret_82 rfl rfl rfl (o11 c1 r2 m2 p2 q2 r3 m3 p3 q3 c4) rfl ?_
      refine q_goto (tgt := 24) dX12_secret_85 (by decide) ?_
      exact l12 c1 r2 m2 p2 q2 r3 m3 p3 q3 c4
theorem dX12_looks_0 : decode cX12_looks 0 = .ok (.aload_n 0, 1) := by decide +kernel
theorem dX12_looks_1 : decode cX12_looks 1 = .ok (.iconst 0, 1) := by decide +kernel
theorem dX12_looks_2 : decode cX12_looks 2 = .ok (.putfield 128, 3) := by decide +kernel
theorem dX12_looks_5 : decode cX12_looks 5 = .ok (.iload_n 1, 1) := by decide +kernel
theorem dX12_looks_6 : decode cX12_looks 6 = .ok (.invokestatic 270, 3) := by decide +kernel
theorem dX12_looks_9 : decode cX12_looks 9 = .ok (.ifCond .ne 5, 3) := by decide +kernel
theorem dX12_looks_12 : decode cX12_looks 12 = .ok (.iconst (-1), 1) := by decide +kernel
theorem dX12_looks_13 : decode cX12_looks 13 = .ok (.ireturn, 1) := by decide +kernel
theorem dX12_looks_14 : decode cX12_looks 14 = .ok (.aload_n 0, 1) := by decide +kernel
theorem dX12_looks_15 : decode cX12_looks 15 = .ok (.getfield 134, 3) := by decide +kernel
theorem dX12_looks_18 : decode cX12_looks 18 = .ok (.ifCond .ne 6, 3) := by decide +kernel
theorem dX12_looks_21 : decode cX12_looks 21 = .ok (.bipush (-2), 2) := by decide +kernel
theorem dX12_looks_23 : decode cX12_looks 23 = .ok (.ireturn, 1) := by decide +kernel
theorem dX12_looks_24 : decode cX12_looks 24 = .ok (.iconst 0, 1) := by decide +kernel
theorem dX12_looks_25 : decode cX12_looks 25 = .ok (.istore_n 2, 1) := by decide +kernel
theorem dX12_looks_26 : decode cX12_looks 26 = .ok (.iconst 0, 1) := by decide +kernel
theorem dX12_looks_27 : decode cX12_looks 27 = .ok (.istore_n 3, 1) := by decide +kernel
theorem dX12_looks_28 : decode cX12_looks 28 = .ok (.iload_n 3, 1) := by decide +kernel
theorem dX12_looks_29 : decode cX12_looks 29 = .ok (.aload_n 0, 1) := by decide +kernel
theorem dX12_looks_30 : decode cX12_looks 30 = .ok (.getfield 134, 3) := by decide +kernel
theorem dX12_looks_33 : decode cX12_looks 33 = .ok (.if_icmp .gt 99, 3) := by decide +kernel
theorem dX12_looks_36 : decode cX12_looks 36 = .ok (.iload_n 3, 1) := by decide +kernel
theorem dX12_looks_37 : decode cX12_looks 37 = .ok (.aload_n 0, 1) := by decide +kernel
theorem dX12_looks_38 : decode cX12_looks 38 = .ok (.getfield 134, 3) := by decide +kernel
theorem dX12_looks_41 : decode cX12_looks 41 = .ok (.if_icmp .ge 17, 3) := by decide +kernel
theorem dX12_looks_44 : decode cX12_looks 44 = .ok (.aload_n 0, 1) := by decide +kernel
theorem dX12_looks_45 : decode cX12_looks 45 = .ok (.getfield 16, 3) := by decide +kernel
theorem dX12_looks_48 : decode cX12_looks 48 = .ok (.iload_n 3, 1) := by decide +kernel
theorem dX12_looks_49 : decode cX12_looks 49 = .ok (.iaload, 1) := by decide +kernel
theorem dX12_looks_50 : decode cX12_looks 50 = .ok (.bipush 9, 2) := by decide +kernel
theorem dX12_looks_52 : decode cX12_looks 52 = .ok (.if_icmp .ne 6, 3) := by decide +kernel
theorem dX12_looks_55 : decode cX12_looks 55 = .ok (.goto 71, 3) := by decide +kernel
theorem dX12_looks_58 : decode cX12_looks 58 = .ok (.aload_n 0, 1) := by decide +kernel
theorem dX12_looks_59 : decode cX12_looks 59 = .ok (.invokevirtual 312, 3) := by decide +kernel
theorem dX12_looks_62 : decode cX12_looks 62 = .ok (.iload_n 3, 1) := by decide +kernel
theorem dX12_looks_63 : decode cX12_looks 63 = .ok (.aload_n 0, 1) := by decide +kernel
theorem dX12_looks_64 : decode cX12_looks 64 = .ok (.getfield 134, 3) := by decide +kernel
theorem dX12_looks_67 : decode cX12_looks 67 = .ok (.if_icmp .ge 13, 3) := by decide +kernel
theorem dX12_looks_70 : decode cX12_looks 70 = .ok (.aload_n 0, 1) := by decide +kernel
theorem dX12_looks_71 : decode cX12_looks 71 = .ok (.getfield 78, 3) := by decide +kernel
theorem dX12_looks_74 : decode cX12_looks 74 = .ok (.iload_n 3, 1) := by decide +kernel
theorem dX12_looks_75 : decode cX12_looks 75 = .ok (.dup2, 1) := by decide +kernel
theorem dX12_looks_76 : decode cX12_looks 76 = .ok (.iaload, 1) := by decide +kernel
theorem dX12_looks_77 : decode cX12_looks 77 = .ok (.iconst 1, 1) := by decide +kernel
theorem dX12_looks_78 : decode cX12_looks 78 = .ok (.iadd, 1) := by decide +kernel
theorem dX12_looks_79 : decode cX12_looks 79 = .ok (.iastore, 1) := by decide +kernel
theorem dX12_looks_80 : decode cX12_looks 80 = .ok (.aload_n 0, 1) := by decide +kernel
theorem dX12_looks_81 : decode cX12_looks 81 = .ok (.iload_n 1, 1) := by decide +kernel
theorem dX12_looks_82 : decode cX12_looks 82 = .ok (.invokevirtual 317, 3) := by decide +kernel
theorem dX12_looks_85 : decode cX12_looks 85 = .ok (.pop, 1) := by decide +kernel
theorem dX12_looks_86 : decode cX12_looks 86 = .ok (.iconst 0, 1) := by decide +kernel
theorem dX12_looks_87 : decode cX12_looks 87 = .ok (.istore 4, 2) := by decide +kernel
theorem dX12_looks_89 : decode cX12_looks 89 = .ok (.iload 4, 2) := by decide +kernel
theorem dX12_looks_91 : decode cX12_looks 91 = .ok (.aload_n 0, 1) := by decide +kernel
theorem dX12_looks_92 : decode cX12_looks 92 = .ok (.getfield 134, 3) := by decide +kernel
theorem dX12_looks_95 : decode cX12_looks 95 = .ok (.if_icmp .ge 28, 3) := by decide +kernel
theorem dX12_looks_98 : decode cX12_looks 98 = .ok (.aload_n 0, 1) := by decide +kernel
theorem dX12_looks_99 : decode cX12_looks 99 = .ok (.getfield 115, 3) := by decide +kernel
theorem dX12_looks_102 : decode cX12_looks 102 = .ok (.bipush 9, 2) := by decide +kernel
theorem dX12_looks_104 : decode cX12_looks 104 = .ok (.iload_n 2, 1) := by decide +kernel
theorem dX12_looks_105 : decode cX12_looks 105 = .ok (.imul, 1) := by decide +kernel
theorem dX12_looks_106 : decode cX12_looks 106 = .ok (.iload 4, 2) := by decide +kernel
theorem dX12_looks_108 : decode cX12_looks 108 = .ok (.iadd, 1) := by decide +kernel
theorem dX12_looks_109 : decode cX12_looks 109 = .ok (.aload_n 0, 1) := by decide +kernel
theorem dX12_looks_110 : decode cX12_looks 110 = .ok (.getfield 72, 3) := by decide +kernel
theorem dX12_looks_113 : decode cX12_looks 113 = .ok (.iload 4, 2) := by decide +kernel
theorem dX12_looks_115 : decode cX12_looks 115 = .ok (.iaload, 1) := by decide +kernel
theorem dX12_looks_116 : decode cX12_looks 116 = .ok (.iastore, 1) := by decide +kernel
theorem dX12_looks_117 : decode cX12_looks 117 = .ok (.iinc 4 1, 3) := by decide +kernel
theorem dX12_looks_120 : decode cX12_looks 120 = .ok (.goto (-31), 3) := by decide +kernel
theorem dX12_looks_123 : decode cX12_looks 123 = .ok (.iinc 2 1, 3) := by decide +kernel
theorem dX12_looks_126 : decode cX12_looks 126 = .ok (.iinc 3 1, 3) := by decide +kernel
theorem dX12_looks_129 : decode cX12_looks 129 = .ok (.goto (-101), 3) := by decide +kernel
theorem dX12_looks_132 : decode cX12_looks 132 = .ok (.iconst (-1), 1) := by decide +kernel
theorem dX12_looks_133 : decode cX12_looks 133 = .ok (.istore_n 3, 1) := by decide +kernel
theorem dX12_looks_134 : decode cX12_looks 134 = .ok (.iconst 0, 1) := by decide +kernel
theorem dX12_looks_135 : decode cX12_looks 135 = .ok (.istore 4, 2) := by decide +kernel
theorem dX12_looks_137 : decode cX12_looks 137 = .ok (.iconst 0, 1) := by decide +kernel
theorem dX12_looks_138 : decode cX12_looks 138 = .ok (.istore 5, 2) := by decide +kernel
theorem dX12_looks_140 : decode cX12_looks 140 = .ok (.iconst 0, 1) := by decide +kernel
theorem dX12_looks_141 : decode cX12_looks 141 = .ok (.istore 6, 2) := by decide +kernel
theorem dX12_looks_143 : decode cX12_looks 143 = .ok (.iload 6, 2) := by decide +kernel
theorem dX12_looks_145 : decode cX12_looks 145 = .ok (.aload_n 0, 1) := by decide +kernel
theorem dX12_looks_146 : decode cX12_looks 146 = .ok (.getfield 134, 3) := by decide +kernel
theorem dX12_looks_149 : decode cX12_looks 149 = .ok (.if_icmp .ge 155, 3) := by decide +kernel
theorem dX12_looks_152 : decode cX12_looks 152 = .ok (.iconst 0, 1) := by decide +kernel
theorem dX12_looks_153 : decode cX12_looks 153 = .ok (.istore 7, 2) := by decide +kernel
theorem dX12_looks_155 : decode cX12_looks 155 = .ok (.iconst 0, 1) := by decide +kernel
theorem dX12_looks_156 : decode cX12_looks 156 = .ok (.istore 8, 2) := by decide +kernel
theorem dX12_looks_158 : decode cX12_looks 158 = .ok (.iconst 0, 1) := by decide +kernel
theorem dX12_looks_159 : decode cX12_looks 159 = .ok (.istore 9, 2) := by decide +kernel
theorem dX12_looks_161 : decode cX12_looks 161 = .ok (.iload 9, 2) := by decide +kernel
theorem dX12_looks_163 : decode cX12_looks 163 = .ok (.iload_n 2, 1) := by decide +kernel
theorem dX12_looks_164 : decode cX12_looks 164 = .ok (.if_icmp .ge 108, 3) := by decide +kernel
theorem dX12_looks_167 : decode cX12_looks 167 = .ok (.iconst 0, 1) := by decide +kernel
theorem dX12_looks_168 : decode cX12_looks 168 = .ok (.istore 10, 2) := by decide +kernel
theorem dX12_looks_170 : decode cX12_looks 170 = .ok (.iconst 1, 1) := by decide +kernel
theorem dX12_looks_171 : decode cX12_looks 171 = .ok (.istore 11, 2) := by decide +kernel
theorem dX12_looks_173 : decode cX12_looks 173 = .ok (.iconst 0, 1) := by decide +kernel
theorem dX12_looks_174 : decode cX12_looks 174 = .ok (.istore 12, 2) := by decide +kernel
theorem dX12_looks_176 : decode cX12_looks 176 = .ok (.iload 12, 2) := by decide +kernel
theorem dX12_looks_178 : decode cX12_looks 178 = .ok (.iload_n 2, 1) := by decide +kernel
theorem dX12_looks_179 : decode cX12_looks 179 = .ok (.if_icmp .ge 63, 3) := by decide +kernel
theorem dX12_looks_182 : decode cX12_looks 182 = .ok (.aload_n 0, 1) := by decide +kernel
theorem dX12_looks_183 : decode cX12_looks 183 = .ok (.getfield 115, 3) := by decide +kernel
theorem dX12_looks_186 : decode cX12_looks 186 = .ok (.bipush 9, 2) := by decide +kernel
theorem dX12_looks_188 : decode cX12_looks 188 = .ok (.iload 12, 2) := by decide +kernel
theorem dX12_looks_190 : decode cX12_looks 190 = .ok (.imul, 1) := by decide +kernel
theorem dX12_looks_191 : decode cX12_looks 191 = .ok (.iload 6, 2) := by decide +kernel
theorem dX12_looks_193 : decode cX12_looks 193 = .ok (.iadd, 1) := by decide +kernel
theorem dX12_looks_194 : decode cX12_looks 194 = .ok (.iaload, 1) := by decide +kernel
theorem dX12_looks_195 : decode cX12_looks 195 = .ok (.aload_n 0, 1) := by decide +kernel
theorem dX12_looks_196 : decode cX12_looks 196 = .ok (.getfield 115, 3) := by decide +kernel
theorem dX12_looks_199 : decode cX12_looks 199 = .ok (.bipush 9, 2) := by decide +kernel
theorem dX12_looks_201 : decode cX12_looks 201 = .ok (.iload 9, 2) := by decide +kernel
theorem dX12_looks_203 : decode cX12_looks 203 = .ok (.imul, 1) := by decide +kernel
theorem dX12_looks_204 : decode cX12_looks 204 = .ok (.iload 6, 2) := by decide +kernel
theorem dX12_looks_206 : decode cX12_looks 206 = .ok (.iadd, 1) := by decide +kernel
theorem dX12_looks_207 : decode cX12_looks 207 = .ok (.iaload, 1) := by decide +kernel
theorem dX12_looks_208 : decode cX12_looks 208 = .ok (.if_icmp .eq 6, 3) := by decide +kernel
theorem dX12_looks_211 : decode cX12_looks 211 = .ok (.goto 25, 3) := by decide +kernel
theorem dX12_looks_214 : decode cX12_looks 214 = .ok (.iinc 10 1, 3) := by decide +kernel
theorem dX12_looks_217 : decode cX12_looks 217 = .ok (.iload 11, 2) := by decide +kernel
theorem dX12_looks_219 : decode cX12_looks 219 = .ok (.ifCond .eq 14, 3) := by decide +kernel
theorem dX12_looks_222 : decode cX12_looks 222 = .ok (.iload 12, 2) := by decide +kernel
theorem dX12_looks_224 : decode cX12_looks 224 = .ok (.iload 9, 2) := by decide +kernel
theorem dX12_looks_226 : decode cX12_looks 226 = .ok (.if_icmp .lt 7, 3) := by decide +kernel
theorem dX12_looks_229 : decode cX12_looks 229 = .ok (.iconst 1, 1) := by decide +kernel
theorem dX12_looks_230 : decode cX12_looks 230 = .ok (.goto 4, 3) := by decide +kernel
theorem dX12_looks_233 : decode cX12_looks 233 = .ok (.iconst 0, 1) := by decide +kernel
theorem dX12_looks_234 : decode cX12_looks 234 = .ok (.istore 11, 2) := by decide +kernel
theorem dX12_looks_236 : decode cX12_looks 236 = .ok (.iinc 12 1, 3) := by decide +kernel
theorem dX12_looks_239 : decode cX12_looks 239 = .ok (.goto (-63), 3) := by decide +kernel
theorem dX12_looks_242 : decode cX12_looks 242 = .ok (.iload 7, 2) := by decide +kernel
theorem dX12_looks_244 : decode cX12_looks 244 = .ok (.iload 10, 2) := by decide +kernel
theorem dX12_looks_246 : decode cX12_looks 246 = .ok (.invokestatic 240, 3) := by decide +kernel
theorem dX12_looks_249 : decode cX12_looks 249 = .ok (.istore 7, 2) := by decide +kernel
theorem dX12_looks_251 : decode cX12_looks 251 = .ok (.iload 8, 2) := by decide +kernel
theorem dX12_looks_253 : decode cX12_looks 253 = .ok (.iload 11, 2) := by decide +kernel
theorem dX12_looks_255 : decode cX12_looks 255 = .ok (.ifCond .eq 7, 3) := by decide +kernel
theorem dX12_looks_258 : decode cX12_looks 258 = .ok (.iconst 1, 1) := by decide +kernel
theorem dX12_looks_259 : decode cX12_looks 259 = .ok (.goto 4, 3) := by decide +kernel
theorem dX12_looks_262 : decode cX12_looks 262 = .ok (.iconst 0, 1) := by decide +kernel
theorem dX12_looks_263 : decode cX12_looks 263 = .ok (.iadd, 1) := by decide +kernel
theorem dX12_looks_264 : decode cX12_looks 264 = .ok (.istore 8, 2) := by decide +kernel
theorem dX12_looks_266 : decode cX12_looks 266 = .ok (.iinc 9 1, 3) := by decide +kernel
theorem dX12_looks_269 : decode cX12_looks 269 = .ok (.goto (-108), 3) := by decide +kernel
theorem dX12_looks_272 : decode cX12_looks 272 = .ok (.iload_n 3, 1) := by decide +kernel
theorem dX12_looks_273 : decode cX12_looks 273 = .ok (.iconst (-1), 1) := by decide +kernel
theorem dX12_looks_274 : decode cX12_looks 274 = .ok (.if_icmp .eq 13, 3) := by decide +kernel
theorem dX12_looks_277 : decode cX12_looks 277 = .ok (.iload 7, 2) := by decide +kernel
theorem dX12_looks_279 : decode cX12_looks 279 = .ok (.iload 4, 2) := by decide +kernel
theorem dX12_looks_281 : decode cX12_looks 281 = .ok (.if_icmp .lt 6, 3) := by decide +kernel
theorem dX12_looks_284 : decode cX12_looks 284 = .ok (.goto 14, 3) := by decide +kernel
theorem dX12_looks_287 : decode cX12_looks 287 = .ok (.iload 6, 2) := by decide +kernel
theorem dX12_looks_289 : decode cX12_looks 289 = .ok (.istore_n 3, 1) := by decide +kernel
theorem dX12_looks_290 : decode cX12_looks 290 = .ok (.iload 7, 2) := by decide +kernel
theorem dX12_looks_292 : decode cX12_looks 292 = .ok (.istore 4, 2) := by decide +kernel
theorem dX12_looks_294 : decode cX12_looks 294 = .ok (.iload 8, 2) := by decide +kernel
theorem dX12_looks_296 : decode cX12_looks 296 = .ok (.istore 5, 2) := by decide +kernel
theorem dX12_looks_298 : decode cX12_looks 298 = .ok (.iinc 6 1, 3) := by decide +kernel
theorem dX12_looks_301 : decode cX12_looks 301 = .ok (.goto (-158), 3) := by decide +kernel
theorem dX12_looks_304 : decode cX12_looks 304 = .ok (.aload_n 0, 1) := by decide +kernel
theorem dX12_looks_305 : decode cX12_looks 305 = .ok (.iconst 0, 1) := by decide +kernel
theorem dX12_looks_306 : decode cX12_looks 306 = .ok (.putfield 131, 3) := by decide +kernel
theorem dX12_looks_309 : decode cX12_looks 309 = .ok (.aload_n 0, 1) := by decide +kernel
theorem dX12_looks_310 : decode cX12_looks 310 = .ok (.iload 4, 2) := by decide +kernel
theorem dX12_looks_312 : decode cX12_looks 312 = .ok (.invokevirtual 276, 3) := by decide +kernel
theorem dX12_looks_315 : decode cX12_looks 315 = .ok (.aload_n 0, 1) := by decide +kernel
theorem dX12_looks_316 : decode cX12_looks 316 = .ok (.iload 5, 2) := by decide +kernel
theorem dX12_looks_318 : decode cX12_looks 318 = .ok (.invokevirtual 276, 3) := by decide +kernel
theorem dX12_looks_321 : decode cX12_looks 321 = .ok (.iload_n 3, 1) := by decide +kernel
theorem dX12_looks_322 : decode cX12_looks 322 = .ok (.ireturn, 1) := by decide +kernel
theorem bkX12_looks_0 {b : Int} {mem : qm} {Q : Int → qm → Prop}
    {v : Int}
    (l1 : (0 ≤ v ∧ v ≤ 200) → (mem 188 0) ≠ 0 → q_At yX12_looks cX12_looks 13 (some .int) 3 0 0 (qK (q_rb b) Q) 28 [(2, 188), (0, v), (0, 0), (0, 0), (4, 0), (4, 0), (4, 0), (4, 0), (4, 0), (4, 0), (4, 0), (4, 0), (4, 0)] [] (q_sh0, q_rb b, (q_up mem 188 17 0)))
    (l2 : (0 ≤ v ∧ v ≤ 200) → (mem 188 0) = 0 → Q (-2) (q_up mem 188 17 0))
    (l3 : ¬ (0 ≤ v ∧ v ≤ 200) → Q (-1) (q_up mem 188 17 0)) :
    q_At yX12_looks cX12_looks 13 (some .int) 3 0 0 (qK (q_rb b) Q) 0 [(2, 188), (0, v), (4, 0), (4, 0), (4, 0), (4, 0), (4, 0), (4, 0), (4, 0), (4, 0), (4, 0), (4, 0), (4, 0)] [] (q_sh0, q_rb b, mem) := by
  refine q_aload_n dX12_looks_0 rfl rfl ?_
  refine qx_iconst dX12_looks_1 rfl rfl ?_
  refine q_putI (ci := 12) (k := 17) (kI := 17) (ty := .int) dX12_looks_2 rfl (by decide) rfl tw1200 rfl rfl rfl (fun _ => ⟨rfl, rfl⟩) qs188 ?_
  refine q_iload_n dX12_looks_5 rfl rfl ?_
  refine qx_invS [(0, v)] [(0, v)] rfl qM_X12_isAhead dX12_looks_6 tw1502 rfl rfl rfl rfl (spX12_isAhead) (fun r1 m1 p1 q1 => ?_)
  obtain ⟨p1e, ⟨p1f, p1⟩ | ⟨p1f, p1⟩⟩ := p1
  · rw [p1e, p1f]
    refine qx_if_ne (tgt := 14) dX12_looks_9 (by decide) (fun _ => ?_) (fun z => absurd z (by decide))
    refine q_aload_n dX12_looks_14 rfl rfl ?_
    refine qx_getI (ci := 12) (k := 0) (v := (mem 188 0)) dX12_looks_15 rfl rfl rfl tw1183 rfl qs188 (q_up_i (by decide)) ?_
    refine qx_if_ne (tgt := 24) dX12_looks_18 (by decide) (fun c2 => ?_) (fun c2 => ?_)
    · skip
      refine qx_iconst dX12_looks_24 rfl rfl ?_
      refine qx_istore_n (L' := [(2, 188), (0, v), (0, 0), (4, 0), (4, 0), (4, 0), (4, 0), (4, 0), (4, 0), (4, 0), (4, 0), (4, 0), (4, 0)]) dX12_looks_25 rfl rfl rfl rfl ?_
      refine qx_iconst dX12_looks_26 rfl rfl ?_
      refine qx_istore_n (L' := [(2, 188), (0, v), (0, 0), (0, 0), (4, 0), (4, 0), (4, 0), (4, 0), (4, 0), (4, 0), (4, 0), (4, 0), (4, 0)]) dX12_looks_27 rfl rfl rfl rfl ?_
      exact l1 p1 c2
    · skip
      refine qx_bipush dX12_looks_21 rfl rfl ?_
      exact q_iret dX12_looks_23 (qK_i (l2 p1 c2))
  · rw [p1e, p1f]
    refine qx_if_ne (tgt := 14) dX12_looks_9 (by decide) (fun z => absurd z (by decide)) (fun _ => ?_)
    refine qx_iconst dX12_looks_12 rfl rfl ?_
    exact q_iret dX12_looks_13 (qK_i (l3 p1))
theorem bkX12_looks_28 {b : Int} {mem : qm} {Q : Int → qm → Prop}
    {v v2 v3 : Int}
    (l1 : (mem 188 0) < v3 → q_At yX12_looks cX12_looks 13 (some .int) 3 0 0 (qK (q_rb b) Q) 143 [(2, 188), (0, v), (0, v2), (0, (-1)), (0, 0), (0, 0), (0, 0), (4, 0), (4, 0), (4, 0), (4, 0), (4, 0), (4, 0)] [] (q_sh0, q_rb b, mem))
    {P3 : Int → qm → Prop}
    (l2 : v3 ≤ (mem 188 0) → (mem 188 0) ≤ v3 → q_Ev yX12_begin_ cX12_begin_ 2 none 1 0 0 [(2, 188)] (q_sh0, q_rb b, mem) (qK (q_rb b) (P3)))
    {P5 : Int → qm → Int → qm → Prop}
    (l3 : v3 ≤ (mem 188 0) → (mem 188 0) ≤ v3 → ∀ (r3 : Int), ∀ (m3 : qm), P3 r3 m3 → q_in32 r3 → (m3 188 0) ≤ v3 → q_Ev yX12_goOn_ cX12_goOn_ 4 (some .int) 2 0 0 [(2, 188), (0, v)] (q_sh0, q_rb b, m3) (qK (q_rb b) (P5 r3 m3)))
    (l4 : v3 ≤ (mem 188 0) → (mem 188 0) ≤ v3 → ∀ (r3 : Int), ∀ (m3 : qm), P3 r3 m3 → q_in32 r3 → (m3 188 0) ≤ v3 → ∀ (r5 : Int), ∀ (m5 : qm), P5 r3 m3 r5 m5 → q_in32 r5 → q_At yX12_looks cX12_looks 13 (some .int) 3 0 0 (qK (q_rb b) Q) 89 [(2, 188), (0, v), (0, v2), (0, v3), (0, 0), (4, 0), (4, 0), (4, 0), (4, 0), (4, 0), (4, 0), (4, 0), (4, 0)] [] (q_sh0, q_rb b, m5))
    (o5 : v3 ≤ (mem 188 0) → (mem 188 0) ≤ v3 → ∀ (r3 : Int), ∀ (m3 : qm), P3 r3 m3 → q_in32 r3 → v3 < (m3 188 0) → (0 ≤ v3 ∧ v3 < 9) ∧ q_in32 ((m3 209 v3) + 1))
    {P6 : Int → qm → Int → qm → Prop}
    (l6 : v3 ≤ (mem 188 0) → (mem 188 0) ≤ v3 → ∀ (r3 : Int), ∀ (m3 : qm), P3 r3 m3 → q_in32 r3 → v3 < (m3 188 0) → q_Ev yX12_goOn_ cX12_goOn_ 4 (some .int) 2 0 0 [(2, 188), (0, v)] (q_sh0, q_rb b, (q_up m3 209 v3 ((m3 209 v3) + 1))) (qK (q_rb b) (P6 r3 m3)))
    (l7 : v3 ≤ (mem 188 0) → (mem 188 0) ≤ v3 → ∀ (r3 : Int), ∀ (m3 : qm), P3 r3 m3 → q_in32 r3 → v3 < (m3 188 0) → ∀ (r6 : Int), ∀ (m6 : qm), P6 r3 m3 r6 m6 → q_in32 r6 → q_At yX12_looks cX12_looks 13 (some .int) 3 0 0 (qK (q_rb b) Q) 89 [(2, 188), (0, v), (0, v2), (0, v3), (0, 0), (4, 0), (4, 0), (4, 0), (4, 0), (4, 0), (4, 0), (4, 0), (4, 0)] [] (q_sh0, q_rb b, m6))
    (o8 : v3 ≤ (mem 188 0) → v3 < (mem 188 0) → (0 ≤ v3 ∧ v3 < 9))
    {P8 : Int → qm → Prop}
    (l9 : v3 ≤ (mem 188 0) → v3 < (mem 188 0) → (mem 191 v3) ≠ 9 → q_Ev yX12_begin_ cX12_begin_ 2 none 1 0 0 [(2, 188)] (q_sh0, q_rb b, mem) (qK (q_rb b) (P8)))
    {P10 : Int → qm → Int → qm → Prop}
    (l10 : v3 ≤ (mem 188 0) → v3 < (mem 188 0) → (mem 191 v3) ≠ 9 → ∀ (r8 : Int), ∀ (m8 : qm), P8 r8 m8 → q_in32 r8 → (m8 188 0) ≤ v3 → q_Ev yX12_goOn_ cX12_goOn_ 4 (some .int) 2 0 0 [(2, 188), (0, v)] (q_sh0, q_rb b, m8) (qK (q_rb b) (P10 r8 m8)))
    (l11 : v3 ≤ (mem 188 0) → v3 < (mem 188 0) → (mem 191 v3) ≠ 9 → ∀ (r8 : Int), ∀ (m8 : qm), P8 r8 m8 → q_in32 r8 → (m8 188 0) ≤ v3 → ∀ (r10 : Int), ∀ (m10 : qm), P10 r8 m8 r10 m10 → q_in32 r10 → q_At yX12_looks cX12_looks 13 (some .int) 3 0 0 (qK (q_rb b) Q) 89 [(2, 188), (0, v), (0, v2), (0, v3), (0, 0), (4, 0), (4, 0), (4, 0), (4, 0), (4, 0), (4, 0), (4, 0), (4, 0)] [] (q_sh0, q_rb b, m10))
    (o12 : v3 ≤ (mem 188 0) → v3 < (mem 188 0) → (mem 191 v3) ≠ 9 → ∀ (r8 : Int), ∀ (m8 : qm), P8 r8 m8 → q_in32 r8 → v3 < (m8 188 0) → q_in32 ((m8 209 v3) + 1))
    {P11 : Int → qm → Int → qm → Prop}
    (l13 : v3 ≤ (mem 188 0) → v3 < (mem 188 0) → (mem 191 v3) ≠ 9 → ∀ (r8 : Int), ∀ (m8 : qm), P8 r8 m8 → q_in32 r8 → v3 < (m8 188 0) → q_Ev yX12_goOn_ cX12_goOn_ 4 (some .int) 2 0 0 [(2, 188), (0, v)] (q_sh0, q_rb b, (q_up m8 209 v3 ((m8 209 v3) + 1))) (qK (q_rb b) (P11 r8 m8)))
    (l14 : v3 ≤ (mem 188 0) → v3 < (mem 188 0) → (mem 191 v3) ≠ 9 → ∀ (r8 : Int), ∀ (m8 : qm), P8 r8 m8 → q_in32 r8 → v3 < (m8 188 0) → ∀ (r11 : Int), ∀ (m11 : qm), P11 r8 m8 r11 m11 → q_in32 r11 → q_At yX12_looks cX12_looks 13 (some .int) 3 0 0 (qK (q_rb b) Q) 89 [(2, 188), (0, v), (0, v2), (0, v3), (0, 0), (4, 0), (4, 0), (4, 0), (4, 0), (4, 0), (4, 0), (4, 0), (4, 0)] [] (q_sh0, q_rb b, m11))
    (o15 : v3 ≤ (mem 188 0) → v3 < (mem 188 0) → (mem 191 v3) = 9 → q_in32 (v3 + 1))
    (l16 : v3 ≤ (mem 188 0) → v3 < (mem 188 0) → (mem 191 v3) = 9 → q_At yX12_looks cX12_looks 13 (some .int) 3 0 0 (qK (q_rb b) Q) 28 [(2, 188), (0, v), (0, v2), (0, (v3 + 1)), (4, 0), (4, 0), (4, 0), (4, 0), (4, 0), (4, 0), (4, 0), (4, 0), (4, 0)] [] (q_sh0, q_rb b, mem)) :
    q_At yX12_looks cX12_looks 13 (some .int) 3 0 0 (qK (q_rb b) Q) 28 [(2, 188), (0, v), (0, v2), (0, v3), (4, 0), (4, 0), (4, 0), (4, 0), (4, 0), (4, 0), (4, 0), (4, 0), (4, 0)] [] (q_sh0, q_rb b, mem) := by
  refine q_iload_n dX12_looks_28 rfl rfl ?_
  refine q_aload_n dX12_looks_29 rfl rfl ?_
  refine qx_getI (ci := 12) (k := 0) (v := (mem 188 0)) dX12_looks_30 rfl rfl rfl tw1183 rfl qs188 rfl ?_
  refine qx_icmp_gt (tgt := 132) dX12_looks_33 (by decide) (fun c1 => ?_) (fun c1 => ?_)
  · skip
    refine qx_iconst dX12_looks_132 rfl rfl ?_
    refine qx_istore_n (L' := [(2, 188), (0, v), (0, v2), (0, (-1)), (4, 0), (4, 0), (4, 0), (4, 0), (4, 0), (4, 0), (4, 0), (4, 0), (4, 0)]) dX12_looks_133 rfl rfl rfl rfl ?_
    refine qx_iconst dX12_looks_134 rfl rfl ?_
    refine qx_istore (L' := [(2, 188), (0, v), (0, v2), (0, (-1)), (0, 0), (4, 0), (4, 0), (4, 0), (4, 0), (4, 0), (4, 0), (4, 0), (4, 0)]) dX12_looks_135 rfl rfl rfl ?_
    refine qx_iconst dX12_looks_137 rfl rfl ?_
    refine qx_istore (L' := [(2, 188), (0, v), (0, v2), (0, (-1)), (0, 0), (0, 0), (4, 0), (4, 0), (4, 0), (4, 0), (4, 0), (4, 0), (4, 0)]) dX12_looks_138 rfl rfl rfl ?_
    refine qx_iconst dX12_looks_140 rfl rfl ?_
    refine qx_istore (L' := [(2, 188), (0, v), (0, v2), (0, (-1)), (0, 0), (0, 0), (0, 0), (4, 0), (4, 0), (4, 0), (4, 0), (4, 0), (4, 0)]) dX12_looks_141 rfl rfl rfl ?_
    exact l1 c1
  · skip
    refine q_iload_n dX12_looks_36 rfl rfl ?_
    refine q_aload_n dX12_looks_37 rfl rfl ?_
    refine qx_getI (ci := 12) (k := 0) (v := (mem 188 0)) dX12_looks_38 rfl rfl rfl tw1183 rfl qs188 rfl ?_
    refine qx_icmp_ge (tgt := 58) dX12_looks_41 (by decide) (fun c2 => ?_) (fun c2 => ?_)
    · skip
      refine q_aload_n dX12_looks_58 rfl rfl ?_
      refine qx_invV (ci := 12) [] [(2, 188)] rfl qM_X12_begin_ dX12_looks_59 tw1559 rfl qs188 rfl rfl rfl rfl (l2 c1 c2) (fun r3 m3 p3 q3 => ?_)
      refine q_iload_n dX12_looks_62 rfl rfl ?_
      refine q_aload_n dX12_looks_63 rfl rfl ?_
      refine qx_getI (ci := 12) (k := 0) (v := (m3 188 0)) dX12_looks_64 rfl rfl rfl tw1183 rfl qs188 rfl ?_
      refine qx_icmp_ge (tgt := 80) dX12_looks_67 (by decide) (fun c4 => ?_) (fun c4 => ?_)
      · skip
        refine q_aload_n dX12_looks_80 rfl rfl ?_
        refine q_iload_n dX12_looks_81 rfl rfl ?_
        refine qx_invV (ci := 12) [(0, v)] [(0, v), (2, 188)] rfl qM_X12_goOn_ dX12_looks_82 tw1583 rfl qs188 rfl rfl rfl rfl (l3 c1 c2 r3 m3 p3 q3 c4) (fun r5 m5 p5 q5 => ?_)
        refine q_pop dX12_looks_85 (fun h => by cases h) ?_
        refine qx_iconst dX12_looks_86 rfl rfl ?_
        refine qx_istore (L' := [(2, 188), (0, v), (0, v2), (0, v3), (0, 0), (4, 0), (4, 0), (4, 0), (4, 0), (4, 0), (4, 0), (4, 0), (4, 0)]) dX12_looks_87 rfl rfl rfl ?_
        exact l4 c1 c2 r3 m3 p3 q3 c4 r5 m5 p5 q5
      · skip
        refine q_aload_n dX12_looks_70 rfl rfl ?_
        refine q_getR (ci := 12) (k := 35) dX12_looks_71 rfl (by decide) rfl tw1218 (by decide) qs188 qw188_35 (by decide) ?_
        refine q_iload_n dX12_looks_74 rfl rfl ?_
        refine q_dup2 dX12_looks_75 (fun h => by cases h) (fun h => by cases h) ?_
        refine qx_iald (v := (m3 209 v3)) dX12_looks_76 qs209 (o5 c1 c2 r3 m3 p3 q3 c4).1 rfl ?_
        refine qx_iconst dX12_looks_77 rfl rfl ?_
        refine qx_iadd dX12_looks_78 (o5 c1 c2 r3 m3 p3 q3 c4).2 ?_
        refine q_iast dX12_looks_79 qs209 ((o5 c1 c2 r3 m3 p3 q3 c4).1).1 ((o5 c1 c2 r3 m3 p3 q3 c4).1).2 ?_
        refine q_aload_n dX12_looks_80 rfl rfl ?_
        refine q_iload_n dX12_looks_81 rfl rfl ?_
        refine qx_invV (ci := 12) [(0, v)] [(0, v), (2, 188)] rfl qM_X12_goOn_ dX12_looks_82 tw1583 rfl qs188 rfl rfl rfl rfl (l6 c1 c2 r3 m3 p3 q3 c4) (fun r6 m6 p6 q6 => ?_)
        refine q_pop dX12_looks_85 (fun h => by cases h) ?_
        refine qx_iconst dX12_looks_86 rfl rfl ?_
        refine qx_istore (L' := [(2, 188), (0, v), (0, v2), (0, v3), (0, 0), (4, 0), (4, 0), (4, 0), (4, 0), (4, 0), (4, 0), (4, 0), (4, 0)]) dX12_looks_87 rfl rfl rfl ?_
        exact l7 c1 c2 r3 m3 p3 q3 c4 r6 m6 p6 q6
    · skip
      refine q_aload_n dX12_looks_44 rfl rfl ?_
      refine q_getR (ci := 12) (k := 3) dX12_looks_45 rfl (by decide) rfl tw1186 (by decide) qs188 qw188_3 (by decide) ?_
      refine q_iload_n dX12_looks_48 rfl rfl ?_
      refine qx_iald (v := (mem 191 v3)) dX12_looks_49 qs191 (o8 c1 c2) rfl ?_
      refine qx_bipush dX12_looks_50 rfl rfl ?_
      refine qx_icmp_ne (tgt := 58) dX12_looks_52 (by decide) (fun c7 => ?_) (fun c7 => ?_)
      · skip
        refine q_aload_n dX12_looks_58 rfl rfl ?_
        refine qx_invV (ci := 12) [] [(2, 188)] rfl qM_X12_begin_ dX12_looks_59 tw1559 rfl qs188 rfl rfl rfl rfl (l9 c1 c2 c7) (fun r8 m8 p8 q8 => ?_)
        refine q_iload_n dX12_looks_62 rfl rfl ?_
        refine q_aload_n dX12_looks_63 rfl rfl ?_
        refine qx_getI (ci := 12) (k := 0) (v := (m8 188 0)) dX12_looks_64 rfl rfl rfl tw1183 rfl qs188 rfl ?_
        refine qx_icmp_ge (tgt := 80) dX12_looks_67 (by decide) (fun c9 => ?_) (fun c9 => ?_)
        · skip
          refine q_aload_n dX12_looks_80 rfl rfl ?_
          refine q_iload_n dX12_looks_81 rfl rfl ?_
          refine qx_invV (ci := 12) [(0, v)] [(0, v), (2, 188)] rfl qM_X12_goOn_ dX12_looks_82 tw1583 rfl qs188 rfl rfl rfl rfl (l10 c1 c2 c7 r8 m8 p8 q8 c9) (fun r10 m10 p10 q10 => ?_)
          refine q_pop dX12_looks_85 (fun h => by cases h) ?_
          refine qx_iconst dX12_looks_86 rfl rfl ?_
          refine qx_istore (L' := [(2, 188), (0, v), (0, v2), (0, v3), (0, 0), (4, 0), (4, 0), (4, 0), (4, 0), (4, 0), (4, 0), (4, 0), (4, 0)]) dX12_looks_87 rfl rfl rfl ?_
          exact l11 c1 c2 c7 r8 m8 p8 q8 c9 r10 m10 p10 q10
        · skip
          refine q_aload_n dX12_looks_70 rfl rfl ?_
          refine q_getR (ci := 12) (k := 35) dX12_looks_71 rfl (by decide) rfl tw1218 (by decide) qs188 qw188_35 (by decide) ?_
          refine q_iload_n dX12_looks_74 rfl rfl ?_
          refine q_dup2 dX12_looks_75 (fun h => by cases h) (fun h => by cases h) ?_
          refine qx_iald (v := (m8 209 v3)) dX12_looks_76 qs209 (o8 c1 c2) rfl ?_
          refine qx_iconst dX12_looks_77 rfl rfl ?_
          refine qx_iadd dX12_looks_78 (o12 c1 c2 c7 r8 m8 p8 q8 c9) ?_
          refine q_iast dX12_looks_79 qs209 ((o8 c1 c2)).1 ((o8 c1 c2)).2 ?_
          refine q_aload_n dX12_looks_80 rfl rfl ?_
          refine q_iload_n dX12_looks_81 rfl rfl ?_
          refine qx_invV (ci := 12) [(0, v)] [(0, v), (2, 188)] rfl qM_X12_goOn_ dX12_looks_82 tw1583 rfl qs188 rfl rfl rfl rfl (l13 c1 c2 c7 r8 m8 p8 q8 c9) (fun r11 m11 p11 q11 => ?_)
          refine q_pop dX12_looks_85 (fun h => by cases h) ?_
          refine qx_iconst dX12_looks_86 rfl rfl ?_
          refine qx_istore (L' := [(2, 188), (0, v), (0, v2), (0, v3), (0, 0), (4, 0), (4, 0), (4, 0), (4, 0), (4, 0), (4, 0), (4, 0), (4, 0)]) dX12_looks_87 rfl rfl rfl ?_
          exact l14 c1 c2 c7 r8 m8 p8 q8 c9 r11 m11 p11 q11
      · skip
        refine q_goto (tgt := 126) dX12_looks_55 (by decide) ?_
        refine qx_iinc (L' := [(2, 188), (0, v), (0, v2), (0, (v3 + 1)), (4, 0), (4, 0), (4, 0), (4, 0), (4, 0), (4, 0), (4, 0), (4, 0), (4, 0)]) dX12_looks_126 rfl rfl rfl (o15 c1 c2 c7) rfl ?_
        refine q_goto (tgt := 28) dX12_looks_129 (by decide) ?_
        exact l16 c1 c2 c7
theorem bkX12_looks_89 {b : Int} {mem : qm} {Q : Int → qm → Prop}
    {v v2 v3 v4 : Int}
    (o1 : (mem 188 0) ≤ v4 → q_in32 (v2 + 1) ∧ q_in32 (v3 + 1))
    (l2 : (mem 188 0) ≤ v4 → q_At yX12_looks cX12_looks 13 (some .int) 3 0 0 (qK (q_rb b) Q) 28 [(2, 188), (0, v), (0, (v2 + 1)), (0, (v3 + 1)), (4, 0), (4, 0), (4, 0), (4, 0), (4, 0), (4, 0), (4, 0), (4, 0), (4, 0)] [] (q_sh0, q_rb b, mem))
    (o3 : v4 < (mem 188 0) → q_in32 (9 * v2) ∧ q_in32 ((9 * v2) + v4) ∧ (0 ≤ v4 ∧ v4 < 9) ∧ (0 ≤ ((9 * v2) + v4) ∧ ((9 * v2) + v4) < 90) ∧ q_in32 (v4 + 1))
    (l4 : v4 < (mem 188 0) → q_At yX12_looks cX12_looks 13 (some .int) 3 0 0 (qK (q_rb b) Q) 89 [(2, 188), (0, v), (0, v2), (0, v3), (0, (v4 + 1)), (4, 0), (4, 0), (4, 0), (4, 0), (4, 0), (4, 0), (4, 0), (4, 0)] [] (q_sh0, q_rb b, (q_up mem 221 ((9 * v2) + v4) (mem 207 v4)))) :
    q_At yX12_looks cX12_looks 13 (some .int) 3 0 0 (qK (q_rb b) Q) 89 [(2, 188), (0, v), (0, v2), (0, v3), (0, v4), (4, 0), (4, 0), (4, 0), (4, 0), (4, 0), (4, 0), (4, 0), (4, 0)] [] (q_sh0, q_rb b, mem) := by
  refine q_iload dX12_looks_89 rfl ?_
  refine q_aload_n dX12_looks_91 rfl rfl ?_
  refine qx_getI (ci := 12) (k := 0) (v := (mem 188 0)) dX12_looks_92 rfl rfl rfl tw1183 rfl qs188 rfl ?_
  refine qx_icmp_ge (tgt := 123) dX12_looks_95 (by decide) (fun c1 => ?_) (fun c1 => ?_)
  · skip
    refine qx_iinc (L' := [(2, 188), (0, v), (0, (v2 + 1)), (0, v3), (0, v4), (4, 0), (4, 0), (4, 0), (4, 0), (4, 0), (4, 0), (4, 0), (4, 0)]) dX12_looks_123 rfl rfl rfl (o1 c1).1 rfl ?_
    refine qx_iinc (L' := [(2, 188), (0, v), (0, (v2 + 1)), (0, (v3 + 1)), (0, v4), (4, 0), (4, 0), (4, 0), (4, 0), (4, 0), (4, 0), (4, 0), (4, 0)]) dX12_looks_126 rfl rfl rfl (o1 c1).2 rfl ?_
    refine q_goto (tgt := 28) dX12_looks_129 (by decide) ?_
    refine q_kill (L' := [(2, 188), (0, v), (0, (v2 + 1)), (0, (v3 + 1)), (4, 0), (4, 0), (4, 0), (4, 0), (4, 0), (4, 0), (4, 0), (4, 0), (4, 0)]) 4 rfl ?_
    exact l2 c1
  · skip
    refine q_aload_n dX12_looks_98 rfl rfl ?_
    refine q_getR (ci := 12) (k := 50) dX12_looks_99 rfl (by decide) rfl tw1233 (by decide) qs188 qw188_50 (by decide) ?_
    refine qx_bipush dX12_looks_102 rfl rfl ?_
    refine q_iload_n dX12_looks_104 rfl rfl ?_
    refine qx_imul dX12_looks_105 (o3 c1).1 ?_
    refine q_iload dX12_looks_106 rfl ?_
    refine qx_iadd dX12_looks_108 (o3 c1).2.1 ?_
    refine q_aload_n dX12_looks_109 rfl rfl ?_
    refine q_getR (ci := 12) (k := 33) dX12_looks_110 rfl (by decide) rfl tw1216 (by decide) qs188 qw188_33 (by decide) ?_
    refine q_iload dX12_looks_113 rfl ?_
    refine qx_iald (v := (mem 207 v4)) dX12_looks_115 qs207 (o3 c1).2.2.1 rfl ?_
    refine q_iast dX12_looks_116 qs221 ((o3 c1).2.2.2.1).1 ((o3 c1).2.2.2.1).2 ?_
    refine qx_iinc (L' := [(2, 188), (0, v), (0, v2), (0, v3), (0, (v4 + 1)), (4, 0), (4, 0), (4, 0), (4, 0), (4, 0), (4, 0), (4, 0), (4, 0)]) dX12_looks_117 rfl rfl rfl (o3 c1).2.2.2.2 rfl ?_
    refine q_goto (tgt := 89) dX12_looks_120 (by decide) ?_
    exact l4 c1
theorem bkX12_looks_143 {b : Int} {mem : qm} {Q : Int → qm → Prop}
    {v v2 v3 v4 v5 v6 : Int}
    (o1 : (mem 188 0) ≤ v6 → (0 ≤ (0 : Int) ∧ (0 : Int) < 16) ∧ (0 ≤ ((0 : Int) + 1) ∧ ((0 : Int) + 1) < 16))
    (l2 : (mem 188 0) ≤ v6 → Q v3 (q_up (q_up (q_up (q_up (q_up mem 188 16 0) 199 (0 : Int) v4) 188 16 ((0 : Int) + 1)) 199 ((0 : Int) + 1) v5) 188 16 (((0 : Int) + 1) + 1)))
    (l3 : v6 < (mem 188 0) → q_At yX12_looks cX12_looks 13 (some .int) 3 0 0 (qK (q_rb b) Q) 161 [(2, 188), (0, v), (0, v2), (0, v3), (0, v4), (0, v5), (0, v6), (0, 0), (0, 0), (0, 0), (4, 0), (4, 0), (4, 0)] [] (q_sh0, q_rb b, mem)) :
    q_At yX12_looks cX12_looks 13 (some .int) 3 0 0 (qK (q_rb b) Q) 143 [(2, 188), (0, v), (0, v2), (0, v3), (0, v4), (0, v5), (0, v6), (4, 0), (4, 0), (4, 0), (4, 0), (4, 0), (4, 0)] [] (q_sh0, q_rb b, mem) := by
  refine q_iload dX12_looks_143 rfl ?_
  refine q_aload_n dX12_looks_145 rfl rfl ?_
  refine qx_getI (ci := 12) (k := 0) (v := (mem 188 0)) dX12_looks_146 rfl rfl rfl tw1183 rfl qs188 rfl ?_
  refine qx_icmp_ge (tgt := 304) dX12_looks_149 (by decide) (fun c1 => ?_) (fun c1 => ?_)
  · skip
    refine q_aload_n dX12_looks_304 rfl rfl ?_
    refine qx_iconst dX12_looks_305 rfl rfl ?_
    refine q_putI (ci := 12) (k := 16) (kI := 16) (ty := .int) dX12_looks_306 rfl (by decide) rfl tw1199 rfl rfl rfl (fun _ => ⟨rfl, rfl⟩) qs188 ?_
    refine q_aload_n dX12_looks_309 rfl rfl ?_
    refine q_iload dX12_looks_310 rfl ?_
    refine qx_invV (ci := 12) [(0, v4)] [(0, v4), (2, 188)] rfl qM_X12_tell dX12_looks_312 tw1509 rfl qs188 rfl rfl rfl rfl (spX12_tell (by first | exact (o1 c1).1 | (simp only [q_up, Int.reduceEq, false_and, true_and, and_true, and_false, ite_false, ite_true, if_true, if_false]; exact (o1 c1).1))) (fun r2 m2 p2 q2 => ?_)
    obtain rfl := p2
    refine q_aload_n dX12_looks_315 rfl rfl ?_
    refine q_iload dX12_looks_316 rfl ?_
    refine qx_invV (ci := 12) [(0, v5)] [(0, v5), (2, 188)] rfl qM_X12_tell dX12_looks_318 tw1509 rfl qs188 rfl rfl rfl rfl (spX12_tell (by first | exact (o1 c1).2 | (simp only [q_up, Int.reduceEq, false_and, true_and, and_true, and_false, ite_false, ite_true, if_true, if_false]; exact (o1 c1).2))) (fun r3 m3 p3 q3 => ?_)
    obtain rfl := p3
    refine q_iload_n dX12_looks_321 rfl rfl ?_
    exact q_iret dX12_looks_322 (qK_i (l2 c1))
  · skip
    refine qx_iconst dX12_looks_152 rfl rfl ?_
    refine qx_istore (L' := [(2, 188), (0, v), (0, v2), (0, v3), (0, v4), (0, v5), (0, v6), (0, 0), (4, 0), (4, 0), (4, 0), (4, 0), (4, 0)]) dX12_looks_153 rfl rfl rfl ?_
    refine qx_iconst dX12_looks_155 rfl rfl ?_
    refine qx_istore (L' := [(2, 188), (0, v), (0, v2), (0, v3), (0, v4), (0, v5), (0, v6), (0, 0), (0, 0), (4, 0), (4, 0), (4, 0), (4, 0)]) dX12_looks_156 rfl rfl rfl ?_
    refine qx_iconst dX12_looks_158 rfl rfl ?_
    refine qx_istore (L' := [(2, 188), (0, v), (0, v2), (0, v3), (0, v4), (0, v5), (0, v6), (0, 0), (0, 0), (0, 0), (4, 0), (4, 0), (4, 0)]) dX12_looks_159 rfl rfl rfl ?_
    exact l3 c1
theorem bkX12_looks_161 {b : Int} {mem : qm} {Q : Int → qm → Prop}
    {v v2 v3 v4 v5 v6 v7 v8 v9 : Int}
    (o1 : v2 ≤ v9 → v3 = (-1) → q_in32 (v6 + 1))
    (l2 : v2 ≤ v9 → v3 = (-1) → q_At yX12_looks cX12_looks 13 (some .int) 3 0 0 (qK (q_rb b) Q) 143 [(2, 188), (0, v), (0, v2), (0, v6), (0, v7), (0, v8), (0, (v6 + 1)), (4, 0), (4, 0), (4, 0), (4, 0), (4, 0), (4, 0)] [] (q_sh0, q_rb b, mem))
    (o3 : v2 ≤ v9 → v3 ≠ (-1) → v7 < v4 → q_in32 (v6 + 1))
    (l4 : v2 ≤ v9 → v3 ≠ (-1) → v7 < v4 → q_At yX12_looks cX12_looks 13 (some .int) 3 0 0 (qK (q_rb b) Q) 143 [(2, 188), (0, v), (0, v2), (0, v6), (0, v7), (0, v8), (0, (v6 + 1)), (4, 0), (4, 0), (4, 0), (4, 0), (4, 0), (4, 0)] [] (q_sh0, q_rb b, mem))
    (o5 : v2 ≤ v9 → v3 ≠ (-1) → v4 ≤ v7 → q_in32 (v6 + 1))
    (l6 : v2 ≤ v9 → v3 ≠ (-1) → v4 ≤ v7 → q_At yX12_looks cX12_looks 13 (some .int) 3 0 0 (qK (q_rb b) Q) 143 [(2, 188), (0, v), (0, v2), (0, v3), (0, v4), (0, v5), (0, (v6 + 1)), (4, 0), (4, 0), (4, 0), (4, 0), (4, 0), (4, 0)] [] (q_sh0, q_rb b, mem))
    (l7 : v9 < v2 → q_At yX12_looks cX12_looks 13 (some .int) 3 0 0 (qK (q_rb b) Q) 176 [(2, 188), (0, v), (0, v2), (0, v3), (0, v4), (0, v5), (0, v6), (0, v7), (0, v8), (0, v9), (0, 0), (0, 1), (0, 0)] [] (q_sh0, q_rb b, mem)) :
    q_At yX12_looks cX12_looks 13 (some .int) 3 0 0 (qK (q_rb b) Q) 161 [(2, 188), (0, v), (0, v2), (0, v3), (0, v4), (0, v5), (0, v6), (0, v7), (0, v8), (0, v9), (4, 0), (4, 0), (4, 0)] [] (q_sh0, q_rb b, mem) := by
  refine q_iload dX12_looks_161 rfl ?_
  refine q_iload_n dX12_looks_163 rfl rfl ?_
  refine qx_icmp_ge (tgt := 272) dX12_looks_164 (by decide) (fun c1 => ?_) (fun c1 => ?_)
  · skip
    refine q_iload_n dX12_looks_272 rfl rfl ?_
    refine qx_iconst dX12_looks_273 rfl rfl ?_
    refine qx_icmp_eq (tgt := 287) dX12_looks_274 (by decide) (fun c2 => ?_) (fun c2 => ?_)
    · skip
      refine q_iload dX12_looks_287 rfl ?_
      refine qx_istore_n (L' := [(2, 188), (0, v), (0, v2), (0, v6), (0, v4), (0, v5), (0, v6), (0, v7), (0, v8), (0, v9), (4, 0), (4, 0), (4, 0)]) dX12_looks_289 rfl rfl rfl rfl ?_
      refine q_iload dX12_looks_290 rfl ?_
      refine qx_istore (L' := [(2, 188), (0, v), (0, v2), (0, v6), (0, v7), (0, v5), (0, v6), (0, v7), (0, v8), (0, v9), (4, 0), (4, 0), (4, 0)]) dX12_looks_292 rfl rfl rfl ?_
      refine q_iload dX12_looks_294 rfl ?_
      refine qx_istore (L' := [(2, 188), (0, v), (0, v2), (0, v6), (0, v7), (0, v8), (0, v6), (0, v7), (0, v8), (0, v9), (4, 0), (4, 0), (4, 0)]) dX12_looks_296 rfl rfl rfl ?_
      refine qx_iinc (L' := [(2, 188), (0, v), (0, v2), (0, v6), (0, v7), (0, v8), (0, (v6 + 1)), (0, v7), (0, v8), (0, v9), (4, 0), (4, 0), (4, 0)]) dX12_looks_298 rfl rfl rfl (o1 c1 c2) rfl ?_
      refine q_goto (tgt := 143) dX12_looks_301 (by decide) ?_
      refine q_kill (L' := [(2, 188), (0, v), (0, v2), (0, v6), (0, v7), (0, v8), (0, (v6 + 1)), (4, 0), (0, v8), (0, v9), (4, 0), (4, 0), (4, 0)]) 7 rfl ?_
      refine q_kill (L' := [(2, 188), (0, v), (0, v2), (0, v6), (0, v7), (0, v8), (0, (v6 + 1)), (4, 0), (4, 0), (0, v9), (4, 0), (4, 0), (4, 0)]) 8 rfl ?_
      refine q_kill (L' := [(2, 188), (0, v), (0, v2), (0, v6), (0, v7), (0, v8), (0, (v6 + 1)), (4, 0), (4, 0), (4, 0), (4, 0), (4, 0), (4, 0)]) 9 rfl ?_
      exact l2 c1 c2
    · skip
      refine q_iload dX12_looks_277 rfl ?_
      refine q_iload dX12_looks_279 rfl ?_
      refine qx_icmp_lt (tgt := 287) dX12_looks_281 (by decide) (fun c3 => ?_) (fun c3 => ?_)
      · skip
        refine q_iload dX12_looks_287 rfl ?_
        refine qx_istore_n (L' := [(2, 188), (0, v), (0, v2), (0, v6), (0, v4), (0, v5), (0, v6), (0, v7), (0, v8), (0, v9), (4, 0), (4, 0), (4, 0)]) dX12_looks_289 rfl rfl rfl rfl ?_
        refine q_iload dX12_looks_290 rfl ?_
        refine qx_istore (L' := [(2, 188), (0, v), (0, v2), (0, v6), (0, v7), (0, v5), (0, v6), (0, v7), (0, v8), (0, v9), (4, 0), (4, 0), (4, 0)]) dX12_looks_292 rfl rfl rfl ?_
        refine q_iload dX12_looks_294 rfl ?_
        refine qx_istore (L' := [(2, 188), (0, v), (0, v2), (0, v6), (0, v7), (0, v8), (0, v6), (0, v7), (0, v8), (0, v9), (4, 0), (4, 0), (4, 0)]) dX12_looks_296 rfl rfl rfl ?_
        refine qx_iinc (L' := [(2, 188), (0, v), (0, v2), (0, v6), (0, v7), (0, v8), (0, (v6 + 1)), (0, v7), (0, v8), (0, v9), (4, 0), (4, 0), (4, 0)]) dX12_looks_298 rfl rfl rfl (o3 c1 c2 c3) rfl ?_
        refine q_goto (tgt := 143) dX12_looks_301 (by decide) ?_
        refine q_kill (L' := [(2, 188), (0, v), (0, v2), (0, v6), (0, v7), (0, v8), (0, (v6 + 1)), (4, 0), (0, v8), (0, v9), (4, 0), (4, 0), (4, 0)]) 7 rfl ?_
        refine q_kill (L' := [(2, 188), (0, v), (0, v2), (0, v6), (0, v7), (0, v8), (0, (v6 + 1)), (4, 0), (4, 0), (0, v9), (4, 0), (4, 0), (4, 0)]) 8 rfl ?_
        refine q_kill (L' := [(2, 188), (0, v), (0, v2), (0, v6), (0, v7), (0, v8), (0, (v6 + 1)), (4, 0), (4, 0), (4, 0), (4, 0), (4, 0), (4, 0)]) 9 rfl ?_
        exact l4 c1 c2 c3
      · skip
        refine q_goto (tgt := 298) dX12_looks_284 (by decide) ?_
        refine qx_iinc (L' := [(2, 188), (0, v), (0, v2), (0, v3), (0, v4), (0, v5), (0, (v6 + 1)), (0, v7), (0, v8), (0, v9), (4, 0), (4, 0), (4, 0)]) dX12_looks_298 rfl rfl rfl (o5 c1 c2 c3) rfl ?_
        refine q_goto (tgt := 143) dX12_looks_301 (by decide) ?_
        refine q_kill (L' := [(2, 188), (0, v), (0, v2), (0, v3), (0, v4), (0, v5), (0, (v6 + 1)), (4, 0), (0, v8), (0, v9), (4, 0), (4, 0), (4, 0)]) 7 rfl ?_
        refine q_kill (L' := [(2, 188), (0, v), (0, v2), (0, v3), (0, v4), (0, v5), (0, (v6 + 1)), (4, 0), (4, 0), (0, v9), (4, 0), (4, 0), (4, 0)]) 8 rfl ?_
        refine q_kill (L' := [(2, 188), (0, v), (0, v2), (0, v3), (0, v4), (0, v5), (0, (v6 + 1)), (4, 0), (4, 0), (4, 0), (4, 0), (4, 0), (4, 0)]) 9 rfl ?_
        exact l6 c1 c2 c3
  · skip
    refine qx_iconst dX12_looks_167 rfl rfl ?_
    refine qx_istore (L' := [(2, 188), (0, v), (0, v2), (0, v3), (0, v4), (0, v5), (0, v6), (0, v7), (0, v8), (0, v9), (0, 0), (4, 0), (4, 0)]) dX12_looks_168 rfl rfl rfl ?_
    refine qx_iconst dX12_looks_170 rfl rfl ?_
    refine qx_istore (L' := [(2, 188), (0, v), (0, v2), (0, v3), (0, v4), (0, v5), (0, v6), (0, v7), (0, v8), (0, v9), (0, 0), (0, 1), (4, 0)]) dX12_looks_171 rfl rfl rfl ?_
    refine qx_iconst dX12_looks_173 rfl rfl ?_
    refine qx_istore (L' := [(2, 188), (0, v), (0, v2), (0, v3), (0, v4), (0, v5), (0, v6), (0, v7), (0, v8), (0, v9), (0, 0), (0, 1), (0, 0)]) dX12_looks_174 rfl rfl rfl ?_
    exact l7 c1
theorem bkX12_looks_176 {b : Int} {mem : qm} {Q : Int → qm → Prop}
    {v v2 v3 v4 v5 v6 v7 v8 v9 v10 v11 v12 : Int}
    (o1 : v2 ≤ v12 → v11 = 0 → q_in32 (v8 + 0) ∧ q_in32 (v9 + 1))
    (l2 : v2 ≤ v12 → v11 = 0 → q_At yX12_looks cX12_looks 13 (some .int) 3 0 0 (qK (q_rb b) Q) 161 [(2, 188), (0, v), (0, v2), (0, v3), (0, v4), (0, v5), (0, v6), (0, (max v7 v10)), (0, (v8 + 0)), (0, (v9 + 1)), (4, 0), (4, 0), (4, 0)] [] (q_sh0, q_rb b, mem))
    (o3 : v2 ≤ v12 → v11 ≠ 0 → q_in32 (v8 + 1) ∧ q_in32 (v9 + 1))
    (l4 : v2 ≤ v12 → v11 ≠ 0 → q_At yX12_looks cX12_looks 13 (some .int) 3 0 0 (qK (q_rb b) Q) 161 [(2, 188), (0, v), (0, v2), (0, v3), (0, v4), (0, v5), (0, v6), (0, (max v7 v10)), (0, (v8 + 1)), (0, (v9 + 1)), (4, 0), (4, 0), (4, 0)] [] (q_sh0, q_rb b, mem))
    (o5 : v12 < v2 → q_in32 (9 * v12) ∧ q_in32 ((9 * v12) + v6) ∧ (0 ≤ ((9 * v12) + v6) ∧ ((9 * v12) + v6) < 90) ∧ q_in32 (9 * v9) ∧ q_in32 ((9 * v9) + v6) ∧ (0 ≤ ((9 * v9) + v6) ∧ ((9 * v9) + v6) < 90))
    (o6 : v12 < v2 → (mem 221 ((9 * v12) + v6)) = (mem 221 ((9 * v9) + v6)) → q_in32 (v10 + 1))
    (o7 : v12 < v2 → (mem 221 ((9 * v12) + v6)) = (mem 221 ((9 * v9) + v6)) → v11 = 0 → q_in32 (v12 + 1))
    (l8 : v12 < v2 → (mem 221 ((9 * v12) + v6)) = (mem 221 ((9 * v9) + v6)) → v11 = 0 → q_At yX12_looks cX12_looks 13 (some .int) 3 0 0 (qK (q_rb b) Q) 176 [(2, 188), (0, v), (0, v2), (0, v3), (0, v4), (0, v5), (0, v6), (0, v7), (0, v8), (0, v9), (0, (v10 + 1)), (0, 0), (0, (v12 + 1))] [] (q_sh0, q_rb b, mem))
    (o9 : v12 < v2 → (mem 221 ((9 * v12) + v6)) = (mem 221 ((9 * v9) + v6)) → v11 ≠ 0 → v12 < v9 → q_in32 (v12 + 1))
    (l10 : v12 < v2 → (mem 221 ((9 * v12) + v6)) = (mem 221 ((9 * v9) + v6)) → v11 ≠ 0 → v12 < v9 → q_At yX12_looks cX12_looks 13 (some .int) 3 0 0 (qK (q_rb b) Q) 176 [(2, 188), (0, v), (0, v2), (0, v3), (0, v4), (0, v5), (0, v6), (0, v7), (0, v8), (0, v9), (0, (v10 + 1)), (0, 0), (0, (v12 + 1))] [] (q_sh0, q_rb b, mem))
    (o11 : v12 < v2 → (mem 221 ((9 * v12) + v6)) = (mem 221 ((9 * v9) + v6)) → v11 ≠ 0 → v9 ≤ v12 → q_in32 (v12 + 1))
    (l12 : v12 < v2 → (mem 221 ((9 * v12) + v6)) = (mem 221 ((9 * v9) + v6)) → v11 ≠ 0 → v9 ≤ v12 → q_At yX12_looks cX12_looks 13 (some .int) 3 0 0 (qK (q_rb b) Q) 176 [(2, 188), (0, v), (0, v2), (0, v3), (0, v4), (0, v5), (0, v6), (0, v7), (0, v8), (0, v9), (0, (v10 + 1)), (0, 1), (0, (v12 + 1))] [] (q_sh0, q_rb b, mem))
    (o13 : v12 < v2 → (mem 221 ((9 * v12) + v6)) ≠ (mem 221 ((9 * v9) + v6)) → q_in32 (v12 + 1))
    (l14 : v12 < v2 → (mem 221 ((9 * v12) + v6)) ≠ (mem 221 ((9 * v9) + v6)) → q_At yX12_looks cX12_looks 13 (some .int) 3 0 0 (qK (q_rb b) Q) 176 [(2, 188), (0, v), (0, v2), (0, v3), (0, v4), (0, v5), (0, v6), (0, v7), (0, v8), (0, v9), (0, v10), (0, v11), (0, (v12 + 1))] [] (q_sh0, q_rb b, mem)) :
    q_At yX12_looks cX12_looks 13 (some .int) 3 0 0 (qK (q_rb b) Q) 176 [(2, 188), (0, v), (0, v2), (0, v3), (0, v4), (0, v5), (0, v6), (0, v7), (0, v8), (0, v9), (0, v10), (0, v11), (0, v12)] [] (q_sh0, q_rb b, mem) := by
  refine q_iload dX12_looks_176 rfl ?_
  refine q_iload_n dX12_looks_178 rfl rfl ?_
  refine qx_icmp_ge (tgt := 242) dX12_looks_179 (by decide) (fun c1 => ?_) (fun c1 => ?_)
  · skip
    refine q_iload dX12_looks_242 rfl ?_
    refine q_iload dX12_looks_244 rfl ?_
    refine q_max dX12_looks_246 tw1458 tw597 tw15 tw598 (by decide) (Nat.le_of_ble_eq_true rfl) ?_
    refine qx_istore (L' := [(2, 188), (0, v), (0, v2), (0, v3), (0, v4), (0, v5), (0, v6), (0, (max v7 v10)), (0, v8), (0, v9), (0, v10), (0, v11), (0, v12)]) dX12_looks_249 rfl rfl rfl ?_
    refine q_iload dX12_looks_251 rfl ?_
    refine q_iload dX12_looks_253 rfl ?_
    refine qx_if_eq (tgt := 262) dX12_looks_255 (by decide) (fun c2 => ?_) (fun c2 => ?_)
    · skip
      refine qx_iconst dX12_looks_262 rfl rfl ?_
      refine qx_iadd dX12_looks_263 (o1 c1 c2).1 ?_
      refine qx_istore (L' := [(2, 188), (0, v), (0, v2), (0, v3), (0, v4), (0, v5), (0, v6), (0, (max v7 v10)), (0, (v8 + 0)), (0, v9), (0, v10), (0, v11), (0, v12)]) dX12_looks_264 rfl rfl rfl ?_
      refine qx_iinc (L' := [(2, 188), (0, v), (0, v2), (0, v3), (0, v4), (0, v5), (0, v6), (0, (max v7 v10)), (0, (v8 + 0)), (0, (v9 + 1)), (0, v10), (0, v11), (0, v12)]) dX12_looks_266 rfl rfl rfl (o1 c1 c2).2 rfl ?_
      refine q_goto (tgt := 161) dX12_looks_269 (by decide) ?_
      refine q_kill (L' := [(2, 188), (0, v), (0, v2), (0, v3), (0, v4), (0, v5), (0, v6), (0, (max v7 v10)), (0, (v8 + 0)), (0, (v9 + 1)), (4, 0), (0, v11), (0, v12)]) 10 rfl ?_
      refine q_kill (L' := [(2, 188), (0, v), (0, v2), (0, v3), (0, v4), (0, v5), (0, v6), (0, (max v7 v10)), (0, (v8 + 0)), (0, (v9 + 1)), (4, 0), (4, 0), (0, v12)]) 11 rfl ?_
      refine q_kill (L' := [(2, 188), (0, v), (0, v2), (0, v3), (0, v4), (0, v5), (0, v6), (0, (max v7 v10)), (0, (v8 + 0)), (0, (v9 + 1)), (4, 0), (4, 0), (4, 0)]) 12 rfl ?_
      exact l2 c1 c2
    · skip
      refine qx_iconst dX12_looks_258 rfl rfl ?_
      refine q_goto (tgt := 263) dX12_looks_259 (by decide) ?_
      refine qx_iadd dX12_looks_263 (o3 c1 c2).1 ?_
      refine qx_istore (L' := [(2, 188), (0, v), (0, v2), (0, v3), (0, v4), (0, v5), (0, v6), (0, (max v7 v10)), (0, (v8 + 1)), (0, v9), (0, v10), (0, v11), (0, v12)]) dX12_looks_264 rfl rfl rfl ?_
      refine qx_iinc (L' := [(2, 188), (0, v), (0, v2), (0, v3), (0, v4), (0, v5), (0, v6), (0, (max v7 v10)), (0, (v8 + 1)), (0, (v9 + 1)), (0, v10), (0, v11), (0, v12)]) dX12_looks_266 rfl rfl rfl (o3 c1 c2).2 rfl ?_
      refine q_goto (tgt := 161) dX12_looks_269 (by decide) ?_
      refine q_kill (L' := [(2, 188), (0, v), (0, v2), (0, v3), (0, v4), (0, v5), (0, v6), (0, (max v7 v10)), (0, (v8 + 1)), (0, (v9 + 1)), (4, 0), (0, v11), (0, v12)]) 10 rfl ?_
      refine q_kill (L' := [(2, 188), (0, v), (0, v2), (0, v3), (0, v4), (0, v5), (0, v6), (0, (max v7 v10)), (0, (v8 + 1)), (0, (v9 + 1)), (4, 0), (4, 0), (0, v12)]) 11 rfl ?_
      refine q_kill (L' := [(2, 188), (0, v), (0, v2), (0, v3), (0, v4), (0, v5), (0, v6), (0, (max v7 v10)), (0, (v8 + 1)), (0, (v9 + 1)), (4, 0), (4, 0), (4, 0)]) 12 rfl ?_
      exact l4 c1 c2
  · skip
    refine q_aload_n dX12_looks_182 rfl rfl ?_
    refine q_getR (ci := 12) (k := 50) dX12_looks_183 rfl (by decide) rfl tw1233 (by decide) qs188 qw188_50 (by decide) ?_
    refine qx_bipush dX12_looks_186 rfl rfl ?_
    refine q_iload dX12_looks_188 rfl ?_
    refine qx_imul dX12_looks_190 (o5 c1).1 ?_
    refine q_iload dX12_looks_191 rfl ?_
    refine qx_iadd dX12_looks_193 (o5 c1).2.1 ?_
    refine qx_iald (v := (mem 221 ((9 * v12) + v6))) dX12_looks_194 qs221 (o5 c1).2.2.1 rfl ?_
    refine q_aload_n dX12_looks_195 rfl rfl ?_
    refine q_getR (ci := 12) (k := 50) dX12_looks_196 rfl (by decide) rfl tw1233 (by decide) qs188 qw188_50 (by decide) ?_
    refine qx_bipush dX12_looks_199 rfl rfl ?_
    refine q_iload dX12_looks_201 rfl ?_
    refine qx_imul dX12_looks_203 (o5 c1).2.2.2.1 ?_
    refine q_iload dX12_looks_204 rfl ?_
    refine qx_iadd dX12_looks_206 (o5 c1).2.2.2.2.1 ?_
    refine qx_iald (v := (mem 221 ((9 * v9) + v6))) dX12_looks_207 qs221 (o5 c1).2.2.2.2.2 rfl ?_
    refine qx_icmp_eq (tgt := 214) dX12_looks_208 (by decide) (fun c3 => ?_) (fun c3 => ?_)
    · skip
      refine qx_iinc (L' := [(2, 188), (0, v), (0, v2), (0, v3), (0, v4), (0, v5), (0, v6), (0, v7), (0, v8), (0, v9), (0, (v10 + 1)), (0, v11), (0, v12)]) dX12_looks_214 rfl rfl rfl (o6 c1 c3) rfl ?_
      refine q_iload dX12_looks_217 rfl ?_
      refine qx_if_eq (tgt := 233) dX12_looks_219 (by decide) (fun c4 => ?_) (fun c4 => ?_)
      · skip
        refine qx_iconst dX12_looks_233 rfl rfl ?_
        refine qx_istore (L' := [(2, 188), (0, v), (0, v2), (0, v3), (0, v4), (0, v5), (0, v6), (0, v7), (0, v8), (0, v9), (0, (v10 + 1)), (0, 0), (0, v12)]) dX12_looks_234 rfl rfl rfl ?_
        refine qx_iinc (L' := [(2, 188), (0, v), (0, v2), (0, v3), (0, v4), (0, v5), (0, v6), (0, v7), (0, v8), (0, v9), (0, (v10 + 1)), (0, 0), (0, (v12 + 1))]) dX12_looks_236 rfl rfl rfl (o7 c1 c3 c4) rfl ?_
        refine q_goto (tgt := 176) dX12_looks_239 (by decide) ?_
        exact l8 c1 c3 c4
      · skip
        refine q_iload dX12_looks_222 rfl ?_
        refine q_iload dX12_looks_224 rfl ?_
        refine qx_icmp_lt (tgt := 233) dX12_looks_226 (by decide) (fun c5 => ?_) (fun c5 => ?_)
        · skip
          refine qx_iconst dX12_looks_233 rfl rfl ?_
          refine qx_istore (L' := [(2, 188), (0, v), (0, v2), (0, v3), (0, v4), (0, v5), (0, v6), (0, v7), (0, v8), (0, v9), (0, (v10 + 1)), (0, 0), (0, v12)]) dX12_looks_234 rfl rfl rfl ?_
          refine qx_iinc (L' := [(2, 188), (0, v), (0, v2), (0, v3), (0, v4), (0, v5), (0, v6), (0, v7), (0, v8), (0, v9), (0, (v10 + 1)), (0, 0), (0, (v12 + 1))]) dX12_looks_236 rfl rfl rfl (o9 c1 c3 c4 c5) rfl ?_
          refine q_goto (tgt := 176) dX12_looks_239 (by decide) ?_
          exact l10 c1 c3 c4 c5
        · skip
          refine qx_iconst dX12_looks_229 rfl rfl ?_
          refine q_goto (tgt := 234) dX12_looks_230 (by decide) ?_
          refine qx_istore (L' := [(2, 188), (0, v), (0, v2), (0, v3), (0, v4), (0, v5), (0, v6), (0, v7), (0, v8), (0, v9), (0, (v10 + 1)), (0, 1), (0, v12)]) dX12_looks_234 rfl rfl rfl ?_
          refine qx_iinc (L' := [(2, 188), (0, v), (0, v2), (0, v3), (0, v4), (0, v5), (0, v6), (0, v7), (0, v8), (0, v9), (0, (v10 + 1)), (0, 1), (0, (v12 + 1))]) dX12_looks_236 rfl rfl rfl (o11 c1 c3 c4 c5) rfl ?_
          refine q_goto (tgt := 176) dX12_looks_239 (by decide) ?_
          exact l12 c1 c3 c4 c5
    · skip
      refine q_goto (tgt := 236) dX12_looks_211 (by decide) ?_
      refine qx_iinc (L' := [(2, 188), (0, v), (0, v2), (0, v3), (0, v4), (0, v5), (0, v6), (0, v7), (0, v8), (0, v9), (0, v10), (0, v11), (0, (v12 + 1))]) dX12_looks_236 rfl rfl rfl (o13 c1 c3) rfl ?_
      refine q_goto (tgt := 176) dX12_looks_239 (by decide) ?_
      exact l14 c1 c3
