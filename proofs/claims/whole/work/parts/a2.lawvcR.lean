theorem dX12_owedBy_0 : decode cX12_owedBy 0 = .ok (.iconst 0, 1) := by decide +kernel
theorem dX12_owedBy_1 : decode cX12_owedBy 1 = .ok (.istore_n 2, 1) := by decide +kernel
theorem dX12_owedBy_2 : decode cX12_owedBy 2 = .ok (.iconst 0, 1) := by decide +kernel
theorem dX12_owedBy_3 : decode cX12_owedBy 3 = .ok (.istore_n 3, 1) := by decide +kernel
theorem dX12_owedBy_4 : decode cX12_owedBy 4 = .ok (.iload_n 3, 1) := by decide +kernel
theorem dX12_owedBy_5 : decode cX12_owedBy 5 = .ok (.bipush 6, 2) := by decide +kernel
theorem dX12_owedBy_7 : decode cX12_owedBy 7 = .ok (.if_icmp .ge 23, 3) := by decide +kernel
theorem dX12_owedBy_10 : decode cX12_owedBy 10 = .ok (.iload_n 2, 1) := by decide +kernel
theorem dX12_owedBy_11 : decode cX12_owedBy 11 = .ok (.aload_n 0, 1) := by decide +kernel
theorem dX12_owedBy_12 : decode cX12_owedBy 12 = .ok (.getfield 34, 3) := by decide +kernel
theorem dX12_owedBy_15 : decode cX12_owedBy 15 = .ok (.bipush 6, 2) := by decide +kernel
theorem dX12_owedBy_17 : decode cX12_owedBy 17 = .ok (.iload_n 1, 1) := by decide +kernel
theorem dX12_owedBy_18 : decode cX12_owedBy 18 = .ok (.imul, 1) := by decide +kernel
theorem dX12_owedBy_19 : decode cX12_owedBy 19 = .ok (.iload_n 3, 1) := by decide +kernel
theorem dX12_owedBy_20 : decode cX12_owedBy 20 = .ok (.iadd, 1) := by decide +kernel
theorem dX12_owedBy_21 : decode cX12_owedBy 21 = .ok (.iaload, 1) := by decide +kernel
theorem dX12_owedBy_22 : decode cX12_owedBy 22 = .ok (.iadd, 1) := by decide +kernel
theorem dX12_owedBy_23 : decode cX12_owedBy 23 = .ok (.istore_n 2, 1) := by decide +kernel
theorem dX12_owedBy_24 : decode cX12_owedBy 24 = .ok (.iinc 3 1, 3) := by decide +kernel
theorem dX12_owedBy_27 : decode cX12_owedBy 27 = .ok (.goto (-23), 3) := by decide +kernel
theorem dX12_owedBy_30 : decode cX12_owedBy 30 = .ok (.iload_n 2, 1) := by decide +kernel
theorem dX12_owedBy_31 : decode cX12_owedBy 31 = .ok (.ireturn, 1) := by decide +kernel
theorem bkX12_owedBy_0 {b : Int} {mem : qm} {Q : Int → qm → Prop}
    {v : Int}
    (l1 : q_At yX12_owedBy cX12_owedBy 4 (some .int) 1 0 0 (qK (q_rb b) Q) 4 [(2, 188), (0, v), (0, 0), (0, 0)] [] (q_sh0, q_rb b, mem)) :
    q_At yX12_owedBy cX12_owedBy 4 (some .int) 1 0 0 (qK (q_rb b) Q) 0 [(2, 188), (0, v), (4, 0), (4, 0)] [] (q_sh0, q_rb b, mem) := by
  refine qx_iconst dX12_owedBy_0 rfl rfl ?_
  refine qx_istore_n (L' := [(2, 188), (0, v), (0, 0), (4, 0)]) dX12_owedBy_1 rfl rfl rfl rfl ?_
  refine qx_iconst dX12_owedBy_2 rfl rfl ?_
  refine qx_istore_n (L' := [(2, 188), (0, v), (0, 0), (0, 0)]) dX12_owedBy_3 rfl rfl rfl rfl ?_
  exact l1
theorem bkX12_owedBy_4 {b : Int} {mem : qm} {Q : Int → qm → Prop}
    {v v2 v3 : Int}
    (l1 : 6 ≤ v3 → Q v2 mem)
    (o2 : v3 < 6 → q_in32 (6 * v) ∧ q_in32 ((6 * v) + v3) ∧ (0 ≤ ((6 * v) + v3) ∧ ((6 * v) + v3) < 36) ∧ q_in32 (v2 + (mem 197 ((6 * v) + v3))) ∧ q_in32 (v3 + 1))
    (l3 : v3 < 6 → q_At yX12_owedBy cX12_owedBy 4 (some .int) 1 0 0 (qK (q_rb b) Q) 4 [(2, 188), (0, v), (0, (v2 + (mem 197 ((6 * v) + v3)))), (0, (v3 + 1))] [] (q_sh0, q_rb b, mem)) :
    q_At yX12_owedBy cX12_owedBy 4 (some .int) 1 0 0 (qK (q_rb b) Q) 4 [(2, 188), (0, v), (0, v2), (0, v3)] [] (q_sh0, q_rb b, mem) := by
  refine q_iload_n dX12_owedBy_4 rfl rfl ?_
  refine qx_bipush dX12_owedBy_5 rfl rfl ?_
  refine qx_icmp_ge (tgt := 30) dX12_owedBy_7 (by decide) (fun c1 => ?_) (fun c1 => ?_)
  · skip
    refine q_iload_n dX12_owedBy_30 rfl rfl ?_
    exact q_iret dX12_owedBy_31 (qK_i (l1 c1))
  · skip
    refine q_iload_n dX12_owedBy_10 rfl rfl ?_
    refine q_aload_n dX12_owedBy_11 rfl rfl ?_
    refine q_getR (ci := 12) (k := 9) dX12_owedBy_12 rfl (by decide) rfl tw1192 (by decide) qs188 qw188_9 (by decide) ?_
    refine qx_bipush dX12_owedBy_15 rfl rfl ?_
    refine q_iload_n dX12_owedBy_17 rfl rfl ?_
    refine qx_imul dX12_owedBy_18 (o2 c1).1 ?_
    refine q_iload_n dX12_owedBy_19 rfl rfl ?_
    refine qx_iadd dX12_owedBy_20 (o2 c1).2.1 ?_
    refine qx_iald (v := (mem 197 ((6 * v) + v3))) dX12_owedBy_21 qs197 (o2 c1).2.2.1 rfl ?_
    refine qx_iadd dX12_owedBy_22 (o2 c1).2.2.2.1 ?_
    refine qx_istore_n (L' := [(2, 188), (0, v), (0, (v2 + (mem 197 ((6 * v) + v3)))), (0, v3)]) dX12_owedBy_23 rfl rfl rfl rfl ?_
    refine qx_iinc (L' := [(2, 188), (0, v), (0, (v2 + (mem 197 ((6 * v) + v3)))), (0, (v3 + 1))]) dX12_owedBy_24 rfl rfl rfl (o2 c1).2.2.2.2 rfl ?_
    refine q_goto (tgt := 4) dX12_owedBy_27 (by decide) ?_
    exact l3 c1
theorem dX12_letter_0 : decode cX12_letter 0 = .ok (.aload_n 0, 1) := by decide +kernel
theorem dX12_letter_1 : decode cX12_letter 1 = .ok (.getfield 54, 3) := by decide +kernel
theorem dX12_letter_4 : decode cX12_letter 4 = .ok (.istore_n 2, 1) := by decide +kernel
theorem dX12_letter_5 : decode cX12_letter 5 = .ok (.iload_n 1, 1) := by decide +kernel
theorem dX12_letter_6 : decode cX12_letter 6 = .ok (.tableswitch 159 98 119 #[104, 131, 159, 159, 159, 145, 124, 159, 102, 159, 117, 159, 159, 138, 159, 159, 159, 159, 109, 159, 159, 152], 102) := by decide +kernel
theorem dX12_letter_108 : decode cX12_letter 108 = .ok (.iload_n 2, 1) := by decide +kernel
theorem dX12_letter_109 : decode cX12_letter 109 = .ok (.ireturn, 1) := by decide +kernel
theorem dX12_letter_110 : decode cX12_letter 110 = .ok (.aload_n 0, 1) := by decide +kernel
theorem dX12_letter_111 : decode cX12_letter 111 = .ok (.getfield 216, 3) := by decide +kernel
theorem dX12_letter_114 : decode cX12_letter 114 = .ok (.ireturn, 1) := by decide +kernel
theorem dX12_letter_115 : decode cX12_letter 115 = .ok (.aload_n 0, 1) := by decide +kernel
theorem dX12_letter_116 : decode cX12_letter 116 = .ok (.getfield 216, 3) := by decide +kernel
theorem dX12_letter_119 : decode cX12_letter 119 = .ok (.bipush 12, 2) := by decide +kernel
theorem dX12_letter_121 : decode cX12_letter 121 = .ok (.irem, 1) := by decide +kernel
theorem dX12_letter_122 : decode cX12_letter 122 = .ok (.ireturn, 1) := by decide +kernel
theorem dX12_letter_123 : decode cX12_letter 123 = .ok (.aload_n 0, 1) := by decide +kernel
theorem dX12_letter_124 : decode cX12_letter 124 = .ok (.getfield 13, 3) := by decide +kernel
theorem dX12_letter_127 : decode cX12_letter 127 = .ok (.iload_n 2, 1) := by decide +kernel
theorem dX12_letter_128 : decode cX12_letter 128 = .ok (.iaload, 1) := by decide +kernel
theorem dX12_letter_129 : decode cX12_letter 129 = .ok (.ireturn, 1) := by decide +kernel
theorem dX12_letter_130 : decode cX12_letter 130 = .ok (.aload_n 0, 1) := by decide +kernel
theorem dX12_letter_131 : decode cX12_letter 131 = .ok (.getfield 16, 3) := by decide +kernel
theorem dX12_letter_134 : decode cX12_letter 134 = .ok (.iload_n 2, 1) := by decide +kernel
theorem dX12_letter_135 : decode cX12_letter 135 = .ok (.iaload, 1) := by decide +kernel
theorem dX12_letter_136 : decode cX12_letter 136 = .ok (.ireturn, 1) := by decide +kernel
theorem dX12_letter_137 : decode cX12_letter 137 = .ok (.aload_n 0, 1) := by decide +kernel
theorem dX12_letter_138 : decode cX12_letter 138 = .ok (.getfield 9, 3) := by decide +kernel
theorem dX12_letter_141 : decode cX12_letter 141 = .ok (.iload_n 2, 1) := by decide +kernel
theorem dX12_letter_142 : decode cX12_letter 142 = .ok (.iaload, 1) := by decide +kernel
theorem dX12_letter_143 : decode cX12_letter 143 = .ok (.ireturn, 1) := by decide +kernel
theorem dX12_letter_144 : decode cX12_letter 144 = .ok (.aload_n 0, 1) := by decide +kernel
theorem dX12_letter_145 : decode cX12_letter 145 = .ok (.getfield 19, 3) := by decide +kernel
theorem dX12_letter_148 : decode cX12_letter 148 = .ok (.iload_n 2, 1) := by decide +kernel
theorem dX12_letter_149 : decode cX12_letter 149 = .ok (.iaload, 1) := by decide +kernel
theorem dX12_letter_150 : decode cX12_letter 150 = .ok (.ireturn, 1) := by decide +kernel
theorem dX12_letter_151 : decode cX12_letter 151 = .ok (.aload_n 0, 1) := by decide +kernel
theorem dX12_letter_152 : decode cX12_letter 152 = .ok (.getfield 22, 3) := by decide +kernel
theorem dX12_letter_155 : decode cX12_letter 155 = .ok (.iload_n 2, 1) := by decide +kernel
theorem dX12_letter_156 : decode cX12_letter 156 = .ok (.iaload, 1) := by decide +kernel
theorem dX12_letter_157 : decode cX12_letter 157 = .ok (.ireturn, 1) := by decide +kernel
theorem dX12_letter_158 : decode cX12_letter 158 = .ok (.aload_n 0, 1) := by decide +kernel
theorem dX12_letter_159 : decode cX12_letter 159 = .ok (.getfield 28, 3) := by decide +kernel
theorem dX12_letter_162 : decode cX12_letter 162 = .ok (.iload_n 2, 1) := by decide +kernel
theorem dX12_letter_163 : decode cX12_letter 163 = .ok (.iaload, 1) := by decide +kernel
theorem dX12_letter_164 : decode cX12_letter 164 = .ok (.ireturn, 1) := by decide +kernel
theorem dX12_letter_165 : decode cX12_letter 165 = .ok (.aload_n 0, 1) := by decide +kernel
theorem dX12_letter_166 : decode cX12_letter 166 = .ok (.aload_n 0, 1) := by decide +kernel
theorem dX12_letter_167 : decode cX12_letter 167 = .ok (.getfield 19, 3) := by decide +kernel
theorem dX12_letter_170 : decode cX12_letter 170 = .ok (.iload_n 2, 1) := by decide +kernel
theorem dX12_letter_171 : decode cX12_letter 171 = .ok (.iaload, 1) := by decide +kernel
theorem dX12_letter_172 : decode cX12_letter 172 = .ok (.invokevirtual 219, 3) := by decide +kernel
theorem dX12_letter_175 : decode cX12_letter 175 = .ok (.ireturn, 1) := by decide +kernel
theorem bkX12_letter_0 {b : Int} {mem : qm} {Q : Int → qm → Prop}
    {v : Int}
    (l1 : v = 98 → Q (mem 188 10) mem)
    (o2 : v ≠ 98 → v = 99 → (0 ≤ (mem 188 26) ∧ (mem 188 26) < 9))
    (l3 : v ≠ 98 → v = 99 → Q (mem 189 (mem 188 26)) mem)
    (o4 : v ≠ 98 → v ≠ 99 → v = 100 → (0 ≤ (mem 188 26) ∧ (mem 188 26) < 9))
    {P4 : Int → qm → Prop}
    (l5 : v ≠ 98 → v ≠ 99 → v = 100 → q_Ev yX12_owedBy cX12_owedBy 4 (some .int) 1 0 0 [(2, 188), (0, (mem 192 (mem 188 26)))] (q_sh0, q_rb b, mem) (qK (q_rb b) (P4)))
    (l6 : v ≠ 98 → v ≠ 99 → v = 100 → ∀ (r4 : Int), ∀ (m4 : qm), P4 r4 m4 → q_in32 r4 → Q r4 m4)
    (o7 : v ≠ 98 → v ≠ 99 → v ≠ 100 → v = 101 → (0 ≤ (mem 188 26) ∧ (mem 188 26) < 9))
    {P6 : Int → qm → Prop}
    (l8 : v ≠ 98 → v ≠ 99 → v ≠ 100 → v = 101 → q_Ev yX12_owedBy cX12_owedBy 4 (some .int) 1 0 0 [(2, 188), (0, (mem 192 (mem 188 26)))] (q_sh0, q_rb b, mem) (qK (q_rb b) (P6)))
    (l9 : v ≠ 98 → v ≠ 99 → v ≠ 100 → v = 101 → ∀ (r6 : Int), ∀ (m6 : qm), P6 r6 m6 → q_in32 r6 → Q r6 m6)
    (o10 : v ≠ 98 → v ≠ 99 → v ≠ 100 → v ≠ 101 → v = 102 → (0 ≤ (mem 188 26) ∧ (mem 188 26) < 9))
    {P8 : Int → qm → Prop}
    (l11 : v ≠ 98 → v ≠ 99 → v ≠ 100 → v ≠ 101 → v = 102 → q_Ev yX12_owedBy cX12_owedBy 4 (some .int) 1 0 0 [(2, 188), (0, (mem 192 (mem 188 26)))] (q_sh0, q_rb b, mem) (qK (q_rb b) (P8)))
    (l12 : v ≠ 98 → v ≠ 99 → v ≠ 100 → v ≠ 101 → v = 102 → ∀ (r8 : Int), ∀ (m8 : qm), P8 r8 m8 → q_in32 r8 → Q r8 m8)
    (o13 : v ≠ 98 → v ≠ 99 → v ≠ 100 → v ≠ 101 → v ≠ 102 → v = 103 → (0 ≤ (mem 188 26) ∧ (mem 188 26) < 9))
    (l14 : v ≠ 98 → v ≠ 99 → v ≠ 100 → v ≠ 101 → v ≠ 102 → v = 103 → Q (mem 193 (mem 188 26)) mem)
    (o15 : v ≠ 98 → v ≠ 99 → v ≠ 100 → v ≠ 101 → v ≠ 102 → v ≠ 103 → v = 104 → (0 ≤ (mem 188 26) ∧ (mem 188 26) < 9))
    (l16 : v ≠ 98 → v ≠ 99 → v ≠ 100 → v ≠ 101 → v ≠ 102 → v ≠ 103 → v = 104 → Q (mem 191 (mem 188 26)) mem)
    (o17 : v ≠ 98 → v ≠ 99 → v ≠ 100 → v ≠ 101 → v ≠ 102 → v ≠ 103 → v ≠ 104 → v = 105 → (0 ≤ (mem 188 26) ∧ (mem 188 26) < 9))
    {P12 : Int → qm → Prop}
    (l18 : v ≠ 98 → v ≠ 99 → v ≠ 100 → v ≠ 101 → v ≠ 102 → v ≠ 103 → v ≠ 104 → v = 105 → q_Ev yX12_owedBy cX12_owedBy 4 (some .int) 1 0 0 [(2, 188), (0, (mem 192 (mem 188 26)))] (q_sh0, q_rb b, mem) (qK (q_rb b) (P12)))
    (l19 : v ≠ 98 → v ≠ 99 → v ≠ 100 → v ≠ 101 → v ≠ 102 → v ≠ 103 → v ≠ 104 → v = 105 → ∀ (r12 : Int), ∀ (m12 : qm), P12 r12 m12 → q_in32 r12 → Q r12 m12)
    (l20 : v ≠ 98 → v ≠ 99 → v ≠ 100 → v ≠ 101 → v ≠ 102 → v ≠ 103 → v ≠ 104 → v ≠ 105 → v = 106 → Q (mem 188 26) mem)
    (o21 : v ≠ 98 → v ≠ 99 → v ≠ 100 → v ≠ 101 → v ≠ 102 → v ≠ 103 → v ≠ 104 → v ≠ 105 → v ≠ 106 → v = 107 → (0 ≤ (mem 188 26) ∧ (mem 188 26) < 9))
    {P15 : Int → qm → Prop}
    (l22 : v ≠ 98 → v ≠ 99 → v ≠ 100 → v ≠ 101 → v ≠ 102 → v ≠ 103 → v ≠ 104 → v ≠ 105 → v ≠ 106 → v = 107 → q_Ev yX12_owedBy cX12_owedBy 4 (some .int) 1 0 0 [(2, 188), (0, (mem 192 (mem 188 26)))] (q_sh0, q_rb b, mem) (qK (q_rb b) (P15)))
    (l23 : v ≠ 98 → v ≠ 99 → v ≠ 100 → v ≠ 101 → v ≠ 102 → v ≠ 103 → v ≠ 104 → v ≠ 105 → v ≠ 106 → v = 107 → ∀ (r15 : Int), ∀ (m15 : qm), P15 r15 m15 → q_in32 r15 → Q r15 m15)
    (o24 : v ≠ 98 → v ≠ 99 → v ≠ 100 → v ≠ 101 → v ≠ 102 → v ≠ 103 → v ≠ 104 → v ≠ 105 → v ≠ 106 → v ≠ 107 → v = 108 → (0 ≤ (mem 188 26) ∧ (mem 188 26) < 9))
    (l25 : v ≠ 98 → v ≠ 99 → v ≠ 100 → v ≠ 101 → v ≠ 102 → v ≠ 103 → v ≠ 104 → v ≠ 105 → v ≠ 106 → v ≠ 107 → v = 108 → Q (mem 190 (mem 188 26)) mem)
    (o26 : v ≠ 98 → v ≠ 99 → v ≠ 100 → v ≠ 101 → v ≠ 102 → v ≠ 103 → v ≠ 104 → v ≠ 105 → v ≠ 106 → v ≠ 107 → v ≠ 108 → v = 109 → (0 ≤ (mem 188 26) ∧ (mem 188 26) < 9))
    {P18 : Int → qm → Prop}
    (l27 : v ≠ 98 → v ≠ 99 → v ≠ 100 → v ≠ 101 → v ≠ 102 → v ≠ 103 → v ≠ 104 → v ≠ 105 → v ≠ 106 → v ≠ 107 → v ≠ 108 → v = 109 → q_Ev yX12_owedBy cX12_owedBy 4 (some .int) 1 0 0 [(2, 188), (0, (mem 192 (mem 188 26)))] (q_sh0, q_rb b, mem) (qK (q_rb b) (P18)))
    (l28 : v ≠ 98 → v ≠ 99 → v ≠ 100 → v ≠ 101 → v ≠ 102 → v ≠ 103 → v ≠ 104 → v ≠ 105 → v ≠ 106 → v ≠ 107 → v ≠ 108 → v = 109 → ∀ (r18 : Int), ∀ (m18 : qm), P18 r18 m18 → q_in32 r18 → Q r18 m18)
    (o29 : v ≠ 98 → v ≠ 99 → v ≠ 100 → v ≠ 101 → v ≠ 102 → v ≠ 103 → v ≠ 104 → v ≠ 105 → v ≠ 106 → v ≠ 107 → v ≠ 108 → v ≠ 109 → v = 110 → (0 ≤ (mem 188 26) ∧ (mem 188 26) < 9))
    {P20 : Int → qm → Prop}
    (l30 : v ≠ 98 → v ≠ 99 → v ≠ 100 → v ≠ 101 → v ≠ 102 → v ≠ 103 → v ≠ 104 → v ≠ 105 → v ≠ 106 → v ≠ 107 → v ≠ 108 → v ≠ 109 → v = 110 → q_Ev yX12_owedBy cX12_owedBy 4 (some .int) 1 0 0 [(2, 188), (0, (mem 192 (mem 188 26)))] (q_sh0, q_rb b, mem) (qK (q_rb b) (P20)))
    (l31 : v ≠ 98 → v ≠ 99 → v ≠ 100 → v ≠ 101 → v ≠ 102 → v ≠ 103 → v ≠ 104 → v ≠ 105 → v ≠ 106 → v ≠ 107 → v ≠ 108 → v ≠ 109 → v = 110 → ∀ (r20 : Int), ∀ (m20 : qm), P20 r20 m20 → q_in32 r20 → Q r20 m20)
    (o32 : v ≠ 98 → v ≠ 99 → v ≠ 100 → v ≠ 101 → v ≠ 102 → v ≠ 103 → v ≠ 104 → v ≠ 105 → v ≠ 106 → v ≠ 107 → v ≠ 108 → v ≠ 109 → v ≠ 110 → v = 111 → (0 ≤ (mem 188 26) ∧ (mem 188 26) < 9))
    (l33 : v ≠ 98 → v ≠ 99 → v ≠ 100 → v ≠ 101 → v ≠ 102 → v ≠ 103 → v ≠ 104 → v ≠ 105 → v ≠ 106 → v ≠ 107 → v ≠ 108 → v ≠ 109 → v ≠ 110 → v = 111 → Q (mem 192 (mem 188 26)) mem)
    (o34 : v ≠ 98 → v ≠ 99 → v ≠ 100 → v ≠ 101 → v ≠ 102 → v ≠ 103 → v ≠ 104 → v ≠ 105 → v ≠ 106 → v ≠ 107 → v ≠ 108 → v ≠ 109 → v ≠ 110 → v ≠ 111 → v = 112 → (0 ≤ (mem 188 26) ∧ (mem 188 26) < 9))
    {P23 : Int → qm → Prop}
    (l35 : v ≠ 98 → v ≠ 99 → v ≠ 100 → v ≠ 101 → v ≠ 102 → v ≠ 103 → v ≠ 104 → v ≠ 105 → v ≠ 106 → v ≠ 107 → v ≠ 108 → v ≠ 109 → v ≠ 110 → v ≠ 111 → v = 112 → q_Ev yX12_owedBy cX12_owedBy 4 (some .int) 1 0 0 [(2, 188), (0, (mem 192 (mem 188 26)))] (q_sh0, q_rb b, mem) (qK (q_rb b) (P23)))
    (l36 : v ≠ 98 → v ≠ 99 → v ≠ 100 → v ≠ 101 → v ≠ 102 → v ≠ 103 → v ≠ 104 → v ≠ 105 → v ≠ 106 → v ≠ 107 → v ≠ 108 → v ≠ 109 → v ≠ 110 → v ≠ 111 → v = 112 → ∀ (r23 : Int), ∀ (m23 : qm), P23 r23 m23 → q_in32 r23 → Q r23 m23)
    (o37 : v ≠ 98 → v ≠ 99 → v ≠ 100 → v ≠ 101 → v ≠ 102 → v ≠ 103 → v ≠ 104 → v ≠ 105 → v ≠ 106 → v ≠ 107 → v ≠ 108 → v ≠ 109 → v ≠ 110 → v ≠ 111 → v ≠ 112 → v = 113 → (0 ≤ (mem 188 26) ∧ (mem 188 26) < 9))
    {P25 : Int → qm → Prop}
    (l38 : v ≠ 98 → v ≠ 99 → v ≠ 100 → v ≠ 101 → v ≠ 102 → v ≠ 103 → v ≠ 104 → v ≠ 105 → v ≠ 106 → v ≠ 107 → v ≠ 108 → v ≠ 109 → v ≠ 110 → v ≠ 111 → v ≠ 112 → v = 113 → q_Ev yX12_owedBy cX12_owedBy 4 (some .int) 1 0 0 [(2, 188), (0, (mem 192 (mem 188 26)))] (q_sh0, q_rb b, mem) (qK (q_rb b) (P25)))
    (l39 : v ≠ 98 → v ≠ 99 → v ≠ 100 → v ≠ 101 → v ≠ 102 → v ≠ 103 → v ≠ 104 → v ≠ 105 → v ≠ 106 → v ≠ 107 → v ≠ 108 → v ≠ 109 → v ≠ 110 → v ≠ 111 → v ≠ 112 → v = 113 → ∀ (r25 : Int), ∀ (m25 : qm), P25 r25 m25 → q_in32 r25 → Q r25 m25)
    (o40 : v ≠ 98 → v ≠ 99 → v ≠ 100 → v ≠ 101 → v ≠ 102 → v ≠ 103 → v ≠ 104 → v ≠ 105 → v ≠ 106 → v ≠ 107 → v ≠ 108 → v ≠ 109 → v ≠ 110 → v ≠ 111 → v ≠ 112 → v ≠ 113 → v = 114 → (0 ≤ (mem 188 26) ∧ (mem 188 26) < 9))
    {P27 : Int → qm → Prop}
    (l41 : v ≠ 98 → v ≠ 99 → v ≠ 100 → v ≠ 101 → v ≠ 102 → v ≠ 103 → v ≠ 104 → v ≠ 105 → v ≠ 106 → v ≠ 107 → v ≠ 108 → v ≠ 109 → v ≠ 110 → v ≠ 111 → v ≠ 112 → v ≠ 113 → v = 114 → q_Ev yX12_owedBy cX12_owedBy 4 (some .int) 1 0 0 [(2, 188), (0, (mem 192 (mem 188 26)))] (q_sh0, q_rb b, mem) (qK (q_rb b) (P27)))
    (l42 : v ≠ 98 → v ≠ 99 → v ≠ 100 → v ≠ 101 → v ≠ 102 → v ≠ 103 → v ≠ 104 → v ≠ 105 → v ≠ 106 → v ≠ 107 → v ≠ 108 → v ≠ 109 → v ≠ 110 → v ≠ 111 → v ≠ 112 → v ≠ 113 → v = 114 → ∀ (r27 : Int), ∀ (m27 : qm), P27 r27 m27 → q_in32 r27 → Q r27 m27)
    (o43 : v ≠ 98 → v ≠ 99 → v ≠ 100 → v ≠ 101 → v ≠ 102 → v ≠ 103 → v ≠ 104 → v ≠ 105 → v ≠ 106 → v ≠ 107 → v ≠ 108 → v ≠ 109 → v ≠ 110 → v ≠ 111 → v ≠ 112 → v ≠ 113 → v ≠ 114 → v = 115 → (0 ≤ (mem 188 26) ∧ (mem 188 26) < 9))
    {P29 : Int → qm → Prop}
    (l44 : v ≠ 98 → v ≠ 99 → v ≠ 100 → v ≠ 101 → v ≠ 102 → v ≠ 103 → v ≠ 104 → v ≠ 105 → v ≠ 106 → v ≠ 107 → v ≠ 108 → v ≠ 109 → v ≠ 110 → v ≠ 111 → v ≠ 112 → v ≠ 113 → v ≠ 114 → v = 115 → q_Ev yX12_owedBy cX12_owedBy 4 (some .int) 1 0 0 [(2, 188), (0, (mem 192 (mem 188 26)))] (q_sh0, q_rb b, mem) (qK (q_rb b) (P29)))
    (l45 : v ≠ 98 → v ≠ 99 → v ≠ 100 → v ≠ 101 → v ≠ 102 → v ≠ 103 → v ≠ 104 → v ≠ 105 → v ≠ 106 → v ≠ 107 → v ≠ 108 → v ≠ 109 → v ≠ 110 → v ≠ 111 → v ≠ 112 → v ≠ 113 → v ≠ 114 → v = 115 → ∀ (r29 : Int), ∀ (m29 : qm), P29 r29 m29 → q_in32 r29 → Q r29 m29)
    (l46 : v ≠ 98 → v ≠ 99 → v ≠ 100 → v ≠ 101 → v ≠ 102 → v ≠ 103 → v ≠ 104 → v ≠ 105 → v ≠ 106 → v ≠ 107 → v ≠ 108 → v ≠ 109 → v ≠ 110 → v ≠ 111 → v ≠ 112 → v ≠ 113 → v ≠ 114 → v ≠ 115 → v = 116 → Q (q_oirem (mem 188 10) 12) mem)
    (o47 : v ≠ 98 → v ≠ 99 → v ≠ 100 → v ≠ 101 → v ≠ 102 → v ≠ 103 → v ≠ 104 → v ≠ 105 → v ≠ 106 → v ≠ 107 → v ≠ 108 → v ≠ 109 → v ≠ 110 → v ≠ 111 → v ≠ 112 → v ≠ 113 → v ≠ 114 → v ≠ 115 → v ≠ 116 → v = 117 → (0 ≤ (mem 188 26) ∧ (mem 188 26) < 9))
    {P32 : Int → qm → Prop}
    (l48 : v ≠ 98 → v ≠ 99 → v ≠ 100 → v ≠ 101 → v ≠ 102 → v ≠ 103 → v ≠ 104 → v ≠ 105 → v ≠ 106 → v ≠ 107 → v ≠ 108 → v ≠ 109 → v ≠ 110 → v ≠ 111 → v ≠ 112 → v ≠ 113 → v ≠ 114 → v ≠ 115 → v ≠ 116 → v = 117 → q_Ev yX12_owedBy cX12_owedBy 4 (some .int) 1 0 0 [(2, 188), (0, (mem 192 (mem 188 26)))] (q_sh0, q_rb b, mem) (qK (q_rb b) (P32)))
    (l49 : v ≠ 98 → v ≠ 99 → v ≠ 100 → v ≠ 101 → v ≠ 102 → v ≠ 103 → v ≠ 104 → v ≠ 105 → v ≠ 106 → v ≠ 107 → v ≠ 108 → v ≠ 109 → v ≠ 110 → v ≠ 111 → v ≠ 112 → v ≠ 113 → v ≠ 114 → v ≠ 115 → v ≠ 116 → v = 117 → ∀ (r32 : Int), ∀ (m32 : qm), P32 r32 m32 → q_in32 r32 → Q r32 m32)
    (o50 : v ≠ 98 → v ≠ 99 → v ≠ 100 → v ≠ 101 → v ≠ 102 → v ≠ 103 → v ≠ 104 → v ≠ 105 → v ≠ 106 → v ≠ 107 → v ≠ 108 → v ≠ 109 → v ≠ 110 → v ≠ 111 → v ≠ 112 → v ≠ 113 → v ≠ 114 → v ≠ 115 → v ≠ 116 → v ≠ 117 → v = 118 → (0 ≤ (mem 188 26) ∧ (mem 188 26) < 9))
    {P34 : Int → qm → Prop}
    (l51 : v ≠ 98 → v ≠ 99 → v ≠ 100 → v ≠ 101 → v ≠ 102 → v ≠ 103 → v ≠ 104 → v ≠ 105 → v ≠ 106 → v ≠ 107 → v ≠ 108 → v ≠ 109 → v ≠ 110 → v ≠ 111 → v ≠ 112 → v ≠ 113 → v ≠ 114 → v ≠ 115 → v ≠ 116 → v ≠ 117 → v = 118 → q_Ev yX12_owedBy cX12_owedBy 4 (some .int) 1 0 0 [(2, 188), (0, (mem 192 (mem 188 26)))] (q_sh0, q_rb b, mem) (qK (q_rb b) (P34)))
    (l52 : v ≠ 98 → v ≠ 99 → v ≠ 100 → v ≠ 101 → v ≠ 102 → v ≠ 103 → v ≠ 104 → v ≠ 105 → v ≠ 106 → v ≠ 107 → v ≠ 108 → v ≠ 109 → v ≠ 110 → v ≠ 111 → v ≠ 112 → v ≠ 113 → v ≠ 114 → v ≠ 115 → v ≠ 116 → v ≠ 117 → v = 118 → ∀ (r34 : Int), ∀ (m34 : qm), P34 r34 m34 → q_in32 r34 → Q r34 m34)
    (o53 : v ≠ 98 → v ≠ 99 → v ≠ 100 → v ≠ 101 → v ≠ 102 → v ≠ 103 → v ≠ 104 → v ≠ 105 → v ≠ 106 → v ≠ 107 → v ≠ 108 → v ≠ 109 → v ≠ 110 → v ≠ 111 → v ≠ 112 → v ≠ 113 → v ≠ 114 → v ≠ 115 → v ≠ 116 → v ≠ 117 → v ≠ 118 → v = 119 → (0 ≤ (mem 188 26) ∧ (mem 188 26) < 9))
    (l54 : v ≠ 98 → v ≠ 99 → v ≠ 100 → v ≠ 101 → v ≠ 102 → v ≠ 103 → v ≠ 104 → v ≠ 105 → v ≠ 106 → v ≠ 107 → v ≠ 108 → v ≠ 109 → v ≠ 110 → v ≠ 111 → v ≠ 112 → v ≠ 113 → v ≠ 114 → v ≠ 115 → v ≠ 116 → v ≠ 117 → v ≠ 118 → v = 119 → Q (mem 195 (mem 188 26)) mem)
    (o55 : v ≠ 98 → v ≠ 99 → v ≠ 100 → v ≠ 101 → v ≠ 102 → v ≠ 103 → v ≠ 104 → v ≠ 105 → v ≠ 106 → v ≠ 107 → v ≠ 108 → v ≠ 109 → v ≠ 110 → v ≠ 111 → v ≠ 112 → v ≠ 113 → v ≠ 114 → v ≠ 115 → v ≠ 116 → v ≠ 117 → v ≠ 118 → v ≠ 119 → (0 ≤ (mem 188 26) ∧ (mem 188 26) < 9))
    {P36 : Int → qm → Prop}
    (l56 : v ≠ 98 → v ≠ 99 → v ≠ 100 → v ≠ 101 → v ≠ 102 → v ≠ 103 → v ≠ 104 → v ≠ 105 → v ≠ 106 → v ≠ 107 → v ≠ 108 → v ≠ 109 → v ≠ 110 → v ≠ 111 → v ≠ 112 → v ≠ 113 → v ≠ 114 → v ≠ 115 → v ≠ 116 → v ≠ 117 → v ≠ 118 → v ≠ 119 → q_Ev yX12_owedBy cX12_owedBy 4 (some .int) 1 0 0 [(2, 188), (0, (mem 192 (mem 188 26)))] (q_sh0, q_rb b, mem) (qK (q_rb b) (P36)))
    (l57 : v ≠ 98 → v ≠ 99 → v ≠ 100 → v ≠ 101 → v ≠ 102 → v ≠ 103 → v ≠ 104 → v ≠ 105 → v ≠ 106 → v ≠ 107 → v ≠ 108 → v ≠ 109 → v ≠ 110 → v ≠ 111 → v ≠ 112 → v ≠ 113 → v ≠ 114 → v ≠ 115 → v ≠ 116 → v ≠ 117 → v ≠ 118 → v ≠ 119 → ∀ (r36 : Int), ∀ (m36 : qm), P36 r36 m36 → q_in32 r36 → Q r36 m36) :
    q_At yX12_letter cX12_letter 3 (some .int) 2 0 0 (qK (q_rb b) Q) 0 [(2, 188), (0, v), (4, 0)] [] (q_sh0, q_rb b, mem) := by
  refine q_aload_n dX12_letter_0 rfl rfl ?_
  refine qx_getI (ci := 12) (k := 26) (v := (mem 188 26)) dX12_letter_1 rfl rfl rfl tw1209 rfl qs188 rfl ?_
  refine qx_istore_n (L' := [(2, 188), (0, v), (0, (mem 188 26))]) dX12_letter_4 rfl rfl rfl rfl ?_
  refine q_iload_n dX12_letter_5 rfl rfl ?_
  by_cases c1 : v = 98
  · skip
    refine q_tabIn (off := 104) (tgt := 110) dX12_letter_6 (by omega) (by omega) (by rw [c1]; rfl) (by decide) ?_
    refine q_aload_n dX12_letter_110 rfl rfl ?_
    refine qx_getI (ci := 12) (k := 10) (v := (mem 188 10)) dX12_letter_111 rfl rfl rfl tw1193 rfl qs188 rfl ?_
    exact q_iret dX12_letter_114 (qK_i (l1 c1))
  by_cases c2 : v = 99
  · skip
    refine q_tabIn (off := 131) (tgt := 137) dX12_letter_6 (by omega) (by omega) (by rw [c2]; rfl) (by decide) ?_
    refine q_aload_n dX12_letter_137 rfl rfl ?_
    refine q_getR (ci := 12) (k := 1) dX12_letter_138 rfl (by decide) rfl tw1184 (by decide) qs188 qw188_1 (by decide) ?_
    refine q_iload_n dX12_letter_141 rfl rfl ?_
    refine qx_iald (v := (mem 189 (mem 188 26))) dX12_letter_142 qs189 (o2 c1 c2) rfl ?_
    exact q_iret dX12_letter_143 (qK_i (l3 c1 c2))
  by_cases c3 : v = 100
  · skip
    refine q_tabIn (off := 159) (tgt := 165) dX12_letter_6 (by omega) (by omega) (by rw [c3]; rfl) (by decide) ?_
    refine q_aload_n dX12_letter_165 rfl rfl ?_
    refine q_aload_n dX12_letter_166 rfl rfl ?_
    refine q_getR (ci := 12) (k := 4) dX12_letter_167 rfl (by decide) rfl tw1187 (by decide) qs188 qw188_4 (by decide) ?_
    refine q_iload_n dX12_letter_170 rfl rfl ?_
    refine qx_iald (v := (mem 192 (mem 188 26))) dX12_letter_171 qs192 (o4 c1 c2 c3) rfl ?_
    refine qx_invV (ci := 12) [(0, (mem 192 (mem 188 26)))] [(0, (mem 192 (mem 188 26))), (2, 188)] rfl qM_X12_owedBy dX12_letter_172 tw1425 rfl qs188 rfl rfl rfl rfl (l5 c1 c2 c3) (fun r4 m4 p4 q4 => ?_)
    exact q_iret dX12_letter_175 (qK_i (l6 c1 c2 c3 r4 m4 p4 q4))
  by_cases c5 : v = 101
  · skip
    refine q_tabIn (off := 159) (tgt := 165) dX12_letter_6 (by omega) (by omega) (by rw [c5]; rfl) (by decide) ?_
    refine q_aload_n dX12_letter_165 rfl rfl ?_
    refine q_aload_n dX12_letter_166 rfl rfl ?_
    refine q_getR (ci := 12) (k := 4) dX12_letter_167 rfl (by decide) rfl tw1187 (by decide) qs188 qw188_4 (by decide) ?_
    refine q_iload_n dX12_letter_170 rfl rfl ?_
    refine qx_iald (v := (mem 192 (mem 188 26))) dX12_letter_171 qs192 (o7 c1 c2 c3 c5) rfl ?_
    refine qx_invV (ci := 12) [(0, (mem 192 (mem 188 26)))] [(0, (mem 192 (mem 188 26))), (2, 188)] rfl qM_X12_owedBy dX12_letter_172 tw1425 rfl qs188 rfl rfl rfl rfl (l8 c1 c2 c3 c5) (fun r6 m6 p6 q6 => ?_)
    exact q_iret dX12_letter_175 (qK_i (l9 c1 c2 c3 c5 r6 m6 p6 q6))
  by_cases c7 : v = 102
  · skip
    refine q_tabIn (off := 159) (tgt := 165) dX12_letter_6 (by omega) (by omega) (by rw [c7]; rfl) (by decide) ?_
    refine q_aload_n dX12_letter_165 rfl rfl ?_
    refine q_aload_n dX12_letter_166 rfl rfl ?_
    refine q_getR (ci := 12) (k := 4) dX12_letter_167 rfl (by decide) rfl tw1187 (by decide) qs188 qw188_4 (by decide) ?_
    refine q_iload_n dX12_letter_170 rfl rfl ?_
    refine qx_iald (v := (mem 192 (mem 188 26))) dX12_letter_171 qs192 (o10 c1 c2 c3 c5 c7) rfl ?_
    refine qx_invV (ci := 12) [(0, (mem 192 (mem 188 26)))] [(0, (mem 192 (mem 188 26))), (2, 188)] rfl qM_X12_owedBy dX12_letter_172 tw1425 rfl qs188 rfl rfl rfl rfl (l11 c1 c2 c3 c5 c7) (fun r8 m8 p8 q8 => ?_)
    exact q_iret dX12_letter_175 (qK_i (l12 c1 c2 c3 c5 c7 r8 m8 p8 q8))
  by_cases c9 : v = 103
  · skip
    refine q_tabIn (off := 145) (tgt := 151) dX12_letter_6 (by omega) (by omega) (by rw [c9]; rfl) (by decide) ?_
    refine q_aload_n dX12_letter_151 rfl rfl ?_
    refine q_getR (ci := 12) (k := 5) dX12_letter_152 rfl (by decide) rfl tw1188 (by decide) qs188 qw188_5 (by decide) ?_
    refine q_iload_n dX12_letter_155 rfl rfl ?_
    refine qx_iald (v := (mem 193 (mem 188 26))) dX12_letter_156 qs193 (o13 c1 c2 c3 c5 c7 c9) rfl ?_
    exact q_iret dX12_letter_157 (qK_i (l14 c1 c2 c3 c5 c7 c9))
  by_cases c10 : v = 104
  · skip
    refine q_tabIn (off := 124) (tgt := 130) dX12_letter_6 (by omega) (by omega) (by rw [c10]; rfl) (by decide) ?_
    refine q_aload_n dX12_letter_130 rfl rfl ?_
    refine q_getR (ci := 12) (k := 3) dX12_letter_131 rfl (by decide) rfl tw1186 (by decide) qs188 qw188_3 (by decide) ?_
    refine q_iload_n dX12_letter_134 rfl rfl ?_
    refine qx_iald (v := (mem 191 (mem 188 26))) dX12_letter_135 qs191 (o15 c1 c2 c3 c5 c7 c9 c10) rfl ?_
    exact q_iret dX12_letter_136 (qK_i (l16 c1 c2 c3 c5 c7 c9 c10))
  by_cases c11 : v = 105
  · skip
    refine q_tabIn (off := 159) (tgt := 165) dX12_letter_6 (by omega) (by omega) (by rw [c11]; rfl) (by decide) ?_
    refine q_aload_n dX12_letter_165 rfl rfl ?_
    refine q_aload_n dX12_letter_166 rfl rfl ?_
    refine q_getR (ci := 12) (k := 4) dX12_letter_167 rfl (by decide) rfl tw1187 (by decide) qs188 qw188_4 (by decide) ?_
    refine q_iload_n dX12_letter_170 rfl rfl ?_
    refine qx_iald (v := (mem 192 (mem 188 26))) dX12_letter_171 qs192 (o17 c1 c2 c3 c5 c7 c9 c10 c11) rfl ?_
    refine qx_invV (ci := 12) [(0, (mem 192 (mem 188 26)))] [(0, (mem 192 (mem 188 26))), (2, 188)] rfl qM_X12_owedBy dX12_letter_172 tw1425 rfl qs188 rfl rfl rfl rfl (l18 c1 c2 c3 c5 c7 c9 c10 c11) (fun r12 m12 p12 q12 => ?_)
    exact q_iret dX12_letter_175 (qK_i (l19 c1 c2 c3 c5 c7 c9 c10 c11 r12 m12 p12 q12))
  by_cases c13 : v = 106
  · skip
    refine q_tabIn (off := 102) (tgt := 108) dX12_letter_6 (by omega) (by omega) (by rw [c13]; rfl) (by decide) ?_
    refine q_iload_n dX12_letter_108 rfl rfl ?_
    exact q_iret dX12_letter_109 (qK_i (l20 c1 c2 c3 c5 c7 c9 c10 c11 c13))
  by_cases c14 : v = 107
  · skip
    refine q_tabIn (off := 159) (tgt := 165) dX12_letter_6 (by omega) (by omega) (by rw [c14]; rfl) (by decide) ?_
    refine q_aload_n dX12_letter_165 rfl rfl ?_
    refine q_aload_n dX12_letter_166 rfl rfl ?_
    refine q_getR (ci := 12) (k := 4) dX12_letter_167 rfl (by decide) rfl tw1187 (by decide) qs188 qw188_4 (by decide) ?_
    refine q_iload_n dX12_letter_170 rfl rfl ?_
    refine qx_iald (v := (mem 192 (mem 188 26))) dX12_letter_171 qs192 (o21 c1 c2 c3 c5 c7 c9 c10 c11 c13 c14) rfl ?_
    refine qx_invV (ci := 12) [(0, (mem 192 (mem 188 26)))] [(0, (mem 192 (mem 188 26))), (2, 188)] rfl qM_X12_owedBy dX12_letter_172 tw1425 rfl qs188 rfl rfl rfl rfl (l22 c1 c2 c3 c5 c7 c9 c10 c11 c13 c14) (fun r15 m15 p15 q15 => ?_)
    exact q_iret dX12_letter_175 (qK_i (l23 c1 c2 c3 c5 c7 c9 c10 c11 c13 c14 r15 m15 p15 q15))
  by_cases c16 : v = 108
  · skip
    refine q_tabIn (off := 117) (tgt := 123) dX12_letter_6 (by omega) (by omega) (by rw [c16]; rfl) (by decide) ?_
    refine q_aload_n dX12_letter_123 rfl rfl ?_
    refine q_getR (ci := 12) (k := 2) dX12_letter_124 rfl (by decide) rfl tw1185 (by decide) qs188 qw188_2 (by decide) ?_
    refine q_iload_n dX12_letter_127 rfl rfl ?_
    refine qx_iald (v := (mem 190 (mem 188 26))) dX12_letter_128 qs190 (o24 c1 c2 c3 c5 c7 c9 c10 c11 c13 c14 c16) rfl ?_
    exact q_iret dX12_letter_129 (qK_i (l25 c1 c2 c3 c5 c7 c9 c10 c11 c13 c14 c16))
  by_cases c17 : v = 109
  · skip
    refine q_tabIn (off := 159) (tgt := 165) dX12_letter_6 (by omega) (by omega) (by rw [c17]; rfl) (by decide) ?_
    refine q_aload_n dX12_letter_165 rfl rfl ?_
    refine q_aload_n dX12_letter_166 rfl rfl ?_
    refine q_getR (ci := 12) (k := 4) dX12_letter_167 rfl (by decide) rfl tw1187 (by decide) qs188 qw188_4 (by decide) ?_
    refine q_iload_n dX12_letter_170 rfl rfl ?_
    refine qx_iald (v := (mem 192 (mem 188 26))) dX12_letter_171 qs192 (o26 c1 c2 c3 c5 c7 c9 c10 c11 c13 c14 c16 c17) rfl ?_
    refine qx_invV (ci := 12) [(0, (mem 192 (mem 188 26)))] [(0, (mem 192 (mem 188 26))), (2, 188)] rfl qM_X12_owedBy dX12_letter_172 tw1425 rfl qs188 rfl rfl rfl rfl (l27 c1 c2 c3 c5 c7 c9 c10 c11 c13 c14 c16 c17) (fun r18 m18 p18 q18 => ?_)
    exact q_iret dX12_letter_175 (qK_i (l28 c1 c2 c3 c5 c7 c9 c10 c11 c13 c14 c16 c17 r18 m18 p18 q18))
  by_cases c19 : v = 110
  · skip
    refine q_tabIn (off := 159) (tgt := 165) dX12_letter_6 (by omega) (by omega) (by rw [c19]; rfl) (by decide) ?_
    refine q_aload_n dX12_letter_165 rfl rfl ?_
    refine q_aload_n dX12_letter_166 rfl rfl ?_
    refine q_getR (ci := 12) (k := 4) dX12_letter_167 rfl (by decide) rfl tw1187 (by decide) qs188 qw188_4 (by decide) ?_
    refine q_iload_n dX12_letter_170 rfl rfl ?_
    refine qx_iald (v := (mem 192 (mem 188 26))) dX12_letter_171 qs192 (o29 c1 c2 c3 c5 c7 c9 c10 c11 c13 c14 c16 c17 c19) rfl ?_
    refine qx_invV (ci := 12) [(0, (mem 192 (mem 188 26)))] [(0, (mem 192 (mem 188 26))), (2, 188)] rfl qM_X12_owedBy dX12_letter_172 tw1425 rfl qs188 rfl rfl rfl rfl (l30 c1 c2 c3 c5 c7 c9 c10 c11 c13 c14 c16 c17 c19) (fun r20 m20 p20 q20 => ?_)
    exact q_iret dX12_letter_175 (qK_i (l31 c1 c2 c3 c5 c7 c9 c10 c11 c13 c14 c16 c17 c19 r20 m20 p20 q20))
  by_cases c21 : v = 111
  · skip
    refine q_tabIn (off := 138) (tgt := 144) dX12_letter_6 (by omega) (by omega) (by rw [c21]; rfl) (by decide) ?_
    refine q_aload_n dX12_letter_144 rfl rfl ?_
    refine q_getR (ci := 12) (k := 4) dX12_letter_145 rfl (by decide) rfl tw1187 (by decide) qs188 qw188_4 (by decide) ?_
    refine q_iload_n dX12_letter_148 rfl rfl ?_
    refine qx_iald (v := (mem 192 (mem 188 26))) dX12_letter_149 qs192 (o32 c1 c2 c3 c5 c7 c9 c10 c11 c13 c14 c16 c17 c19 c21) rfl ?_
    exact q_iret dX12_letter_150 (qK_i (l33 c1 c2 c3 c5 c7 c9 c10 c11 c13 c14 c16 c17 c19 c21))
  by_cases c22 : v = 112
  · skip
    refine q_tabIn (off := 159) (tgt := 165) dX12_letter_6 (by omega) (by omega) (by rw [c22]; rfl) (by decide) ?_
    refine q_aload_n dX12_letter_165 rfl rfl ?_
    refine q_aload_n dX12_letter_166 rfl rfl ?_
    refine q_getR (ci := 12) (k := 4) dX12_letter_167 rfl (by decide) rfl tw1187 (by decide) qs188 qw188_4 (by decide) ?_
    refine q_iload_n dX12_letter_170 rfl rfl ?_
    refine qx_iald (v := (mem 192 (mem 188 26))) dX12_letter_171 qs192 (o34 c1 c2 c3 c5 c7 c9 c10 c11 c13 c14 c16 c17 c19 c21 c22) rfl ?_
    refine qx_invV (ci := 12) [(0, (mem 192 (mem 188 26)))] [(0, (mem 192 (mem 188 26))), (2, 188)] rfl qM_X12_owedBy dX12_letter_172 tw1425 rfl qs188 rfl rfl rfl rfl (l35 c1 c2 c3 c5 c7 c9 c10 c11 c13 c14 c16 c17 c19 c21 c22) (fun r23 m23 p23 q23 => ?_)
    exact q_iret dX12_letter_175 (qK_i (l36 c1 c2 c3 c5 c7 c9 c10 c11 c13 c14 c16 c17 c19 c21 c22 r23 m23 p23 q23))
  by_cases c24 : v = 113
  · skip
    refine q_tabIn (off := 159) (tgt := 165) dX12_letter_6 (by omega) (by omega) (by rw [c24]; rfl) (by decide) ?_
    refine q_aload_n dX12_letter_165 rfl rfl ?_
    refine q_aload_n dX12_letter_166 rfl rfl ?_
    refine q_getR (ci := 12) (k := 4) dX12_letter_167 rfl (by decide) rfl tw1187 (by decide) qs188 qw188_4 (by decide) ?_
    refine q_iload_n dX12_letter_170 rfl rfl ?_
    refine qx_iald (v := (mem 192 (mem 188 26))) dX12_letter_171 qs192 (o37 c1 c2 c3 c5 c7 c9 c10 c11 c13 c14 c16 c17 c19 c21 c22 c24) rfl ?_
    refine qx_invV (ci := 12) [(0, (mem 192 (mem 188 26)))] [(0, (mem 192 (mem 188 26))), (2, 188)] rfl qM_X12_owedBy dX12_letter_172 tw1425 rfl qs188 rfl rfl rfl rfl (l38 c1 c2 c3 c5 c7 c9 c10 c11 c13 c14 c16 c17 c19 c21 c22 c24) (fun r25 m25 p25 q25 => ?_)
    exact q_iret dX12_letter_175 (qK_i (l39 c1 c2 c3 c5 c7 c9 c10 c11 c13 c14 c16 c17 c19 c21 c22 c24 r25 m25 p25 q25))
  by_cases c26 : v = 114
  · skip
    refine q_tabIn (off := 159) (tgt := 165) dX12_letter_6 (by omega) (by omega) (by rw [c26]; rfl) (by decide) ?_
    refine q_aload_n dX12_letter_165 rfl rfl ?_
    refine q_aload_n dX12_letter_166 rfl rfl ?_
    refine q_getR (ci := 12) (k := 4) dX12_letter_167 rfl (by decide) rfl tw1187 (by decide) qs188 qw188_4 (by decide) ?_
    refine q_iload_n dX12_letter_170 rfl rfl ?_
    refine qx_iald (v := (mem 192 (mem 188 26))) dX12_letter_171 qs192 (o40 c1 c2 c3 c5 c7 c9 c10 c11 c13 c14 c16 c17 c19 c21 c22 c24 c26) rfl ?_
    refine qx_invV (ci := 12) [(0, (mem 192 (mem 188 26)))] [(0, (mem 192 (mem 188 26))), (2, 188)] rfl qM_X12_owedBy dX12_letter_172 tw1425 rfl qs188 rfl rfl rfl rfl (l41 c1 c2 c3 c5 c7 c9 c10 c11 c13 c14 c16 c17 c19 c21 c22 c24 c26) (fun r27 m27 p27 q27 => ?_)
    exact q_iret dX12_letter_175 (qK_i (l42 c1 c2 c3 c5 c7 c9 c10 c11 c13 c14 c16 c17 c19 c21 c22 c24 c26 r27 m27 p27 q27))
  by_cases c28 : v = 115
  · skip
    refine q_tabIn (off := 159) (tgt := 165) dX12_letter_6 (by omega) (by omega) (by rw [c28]; rfl) (by decide) ?_
    refine q_aload_n dX12_letter_165 rfl rfl ?_
    refine q_aload_n dX12_letter_166 rfl rfl ?_
    refine q_getR (ci := 12) (k := 4) dX12_letter_167 rfl (by decide) rfl tw1187 (by decide) qs188 qw188_4 (by decide) ?_
    refine q_iload_n dX12_letter_170 rfl rfl ?_
    refine qx_iald (v := (mem 192 (mem 188 26))) dX12_letter_171 qs192 (o43 c1 c2 c3 c5 c7 c9 c10 c11 c13 c14 c16 c17 c19 c21 c22 c24 c26 c28) rfl ?_
    refine qx_invV (ci := 12) [(0, (mem 192 (mem 188 26)))] [(0, (mem 192 (mem 188 26))), (2, 188)] rfl qM_X12_owedBy dX12_letter_172 tw1425 rfl qs188 rfl rfl rfl rfl (l44 c1 c2 c3 c5 c7 c9 c10 c11 c13 c14 c16 c17 c19 c21 c22 c24 c26 c28) (fun r29 m29 p29 q29 => ?_)
    exact q_iret dX12_letter_175 (qK_i (l45 c1 c2 c3 c5 c7 c9 c10 c11 c13 c14 c16 c17 c19 c21 c22 c24 c26 c28 r29 m29 p29 q29))
  by_cases c30 : v = 116
  · skip
    refine q_tabIn (off := 109) (tgt := 115) dX12_letter_6 (by omega) (by omega) (by rw [c30]; rfl) (by decide) ?_
    refine q_aload_n dX12_letter_115 rfl rfl ?_
    refine qx_getI (ci := 12) (k := 10) (v := (mem 188 10)) dX12_letter_116 rfl rfl rfl tw1193 rfl qs188 rfl ?_
    refine qx_bipush dX12_letter_119 rfl rfl ?_
    refine q_irem dX12_letter_121 (by decide) ?_
    exact q_iret dX12_letter_122 (qK_i (l46 c1 c2 c3 c5 c7 c9 c10 c11 c13 c14 c16 c17 c19 c21 c22 c24 c26 c28 c30))
  by_cases c31 : v = 117
  · skip
    refine q_tabIn (off := 159) (tgt := 165) dX12_letter_6 (by omega) (by omega) (by rw [c31]; rfl) (by decide) ?_
    refine q_aload_n dX12_letter_165 rfl rfl ?_
    refine q_aload_n dX12_letter_166 rfl rfl ?_
    refine q_getR (ci := 12) (k := 4) dX12_letter_167 rfl (by decide) rfl tw1187 (by decide) qs188 qw188_4 (by decide) ?_
    refine q_iload_n dX12_letter_170 rfl rfl ?_
    refine qx_iald (v := (mem 192 (mem 188 26))) dX12_letter_171 qs192 (o47 c1 c2 c3 c5 c7 c9 c10 c11 c13 c14 c16 c17 c19 c21 c22 c24 c26 c28 c30 c31) rfl ?_
    refine qx_invV (ci := 12) [(0, (mem 192 (mem 188 26)))] [(0, (mem 192 (mem 188 26))), (2, 188)] rfl qM_X12_owedBy dX12_letter_172 tw1425 rfl qs188 rfl rfl rfl rfl (l48 c1 c2 c3 c5 c7 c9 c10 c11 c13 c14 c16 c17 c19 c21 c22 c24 c26 c28 c30 c31) (fun r32 m32 p32 q32 => ?_)
    exact q_iret dX12_letter_175 (qK_i (l49 c1 c2 c3 c5 c7 c9 c10 c11 c13 c14 c16 c17 c19 c21 c22 c24 c26 c28 c30 c31 r32 m32 p32 q32))
  by_cases c33 : v = 118
  · skip
    refine q_tabIn (off := 159) (tgt := 165) dX12_letter_6 (by omega) (by omega) (by rw [c33]; rfl) (by decide) ?_
    refine q_aload_n dX12_letter_165 rfl rfl ?_
    refine q_aload_n dX12_letter_166 rfl rfl ?_
    refine q_getR (ci := 12) (k := 4) dX12_letter_167 rfl (by decide) rfl tw1187 (by decide) qs188 qw188_4 (by decide) ?_
    refine q_iload_n dX12_letter_170 rfl rfl ?_
    refine qx_iald (v := (mem 192 (mem 188 26))) dX12_letter_171 qs192 (o50 c1 c2 c3 c5 c7 c9 c10 c11 c13 c14 c16 c17 c19 c21 c22 c24 c26 c28 c30 c31 c33) rfl ?_
    refine qx_invV (ci := 12) [(0, (mem 192 (mem 188 26)))] [(0, (mem 192 (mem 188 26))), (2, 188)] rfl qM_X12_owedBy dX12_letter_172 tw1425 rfl qs188 rfl rfl rfl rfl (l51 c1 c2 c3 c5 c7 c9 c10 c11 c13 c14 c16 c17 c19 c21 c22 c24 c26 c28 c30 c31 c33) (fun r34 m34 p34 q34 => ?_)
    exact q_iret dX12_letter_175 (qK_i (l52 c1 c2 c3 c5 c7 c9 c10 c11 c13 c14 c16 c17 c19 c21 c22 c24 c26 c28 c30 c31 c33 r34 m34 p34 q34))
  by_cases c35 : v = 119
  · skip
    refine q_tabIn (off := 152) (tgt := 158) dX12_letter_6 (by omega) (by omega) (by rw [c35]; rfl) (by decide) ?_
    refine q_aload_n dX12_letter_158 rfl rfl ?_
    refine q_getR (ci := 12) (k := 7) dX12_letter_159 rfl (by decide) rfl tw1190 (by decide) qs188 qw188_7 (by decide) ?_
    refine q_iload_n dX12_letter_162 rfl rfl ?_
    refine qx_iald (v := (mem 195 (mem 188 26))) dX12_letter_163 qs195 (o53 c1 c2 c3 c5 c7 c9 c10 c11 c13 c14 c16 c17 c19 c21 c22 c24 c26 c28 c30 c31 c33 c35) rfl ?_
    exact q_iret dX12_letter_164 (qK_i (l54 c1 c2 c3 c5 c7 c9 c10 c11 c13 c14 c16 c17 c19 c21 c22 c24 c26 c28 c30 c31 c33 c35))
  refine q_tabOut (tgt := 165) dX12_letter_6 (by omega) (by decide) ?_
  refine q_aload_n dX12_letter_165 rfl rfl ?_
  refine q_aload_n dX12_letter_166 rfl rfl ?_
  refine q_getR (ci := 12) (k := 4) dX12_letter_167 rfl (by decide) rfl tw1187 (by decide) qs188 qw188_4 (by decide) ?_
  refine q_iload_n dX12_letter_170 rfl rfl ?_
  refine qx_iald (v := (mem 192 (mem 188 26))) dX12_letter_171 qs192 (o55 c1 c2 c3 c5 c7 c9 c10 c11 c13 c14 c16 c17 c19 c21 c22 c24 c26 c28 c30 c31 c33 c35) rfl ?_
  refine qx_invV (ci := 12) [(0, (mem 192 (mem 188 26)))] [(0, (mem 192 (mem 188 26))), (2, 188)] rfl qM_X12_owedBy dX12_letter_172 tw1425 rfl qs188 rfl rfl rfl rfl (l56 c1 c2 c3 c5 c7 c9 c10 c11 c13 c14 c16 c17 c19 c21 c22 c24 c26 c28 c30 c31 c33 c35) (fun r36 m36 p36 q36 => ?_)
  exact q_iret dX12_letter_175 (qK_i (l57 c1 c2 c3 c5 c7 c9 c10 c11 c13 c14 c16 c17 c19 c21 c22 c24 c26 c28 c30 c31 c33 c35 r36 m36 p36 q36))
theorem dX12_thing_0 : decode cX12_thing 0 = .ok (.aload_n 0, 1) := by decide +kernel
theorem dX12_thing_1 : decode cX12_thing 1 = .ok (.bipush 45, 2) := by decide +kernel
theorem dX12_thing_3 : decode cX12_thing 3 = .ok (.invokevirtual 171, 3) := by decide +kernel
theorem dX12_thing_6 : decode cX12_thing 6 = .ok (.ifCond .eq 10, 3) := by decide +kernel
theorem dX12_thing_9 : decode cX12_thing 9 = .ok (.aload_n 0, 1) := by decide +kernel
theorem dX12_thing_10 : decode cX12_thing 10 = .ok (.iload_n 1, 1) := by decide +kernel
theorem dX12_thing_11 : decode cX12_thing 11 = .ok (.invokevirtual 207, 3) := by decide +kernel
theorem dX12_thing_14 : decode cX12_thing 14 = .ok (.ineg, 1) := by decide +kernel
theorem dX12_thing_15 : decode cX12_thing 15 = .ok (.ireturn, 1) := by decide +kernel
theorem dX12_thing_16 : decode cX12_thing 16 = .ok (.aload_n 0, 1) := by decide +kernel
theorem dX12_thing_17 : decode cX12_thing 17 = .ok (.invokevirtual 163, 3) := by decide +kernel
theorem dX12_thing_20 : decode cX12_thing 20 = .ok (.ifCond .ne 5, 3) := by decide +kernel
theorem dX12_thing_23 : decode cX12_thing 23 = .ok (.iconst 0, 1) := by decide +kernel
theorem dX12_thing_24 : decode cX12_thing 24 = .ok (.ireturn, 1) := by decide +kernel
theorem dX12_thing_25 : decode cX12_thing 25 = .ok (.aload_n 0, 1) := by decide +kernel
theorem dX12_thing_26 : decode cX12_thing 26 = .ok (.invokevirtual 167, 3) := by decide +kernel
theorem dX12_thing_29 : decode cX12_thing 29 = .ok (.istore_n 2, 1) := by decide +kernel
theorem dX12_thing_30 : decode cX12_thing 30 = .ok (.iload_n 2, 1) := by decide +kernel
theorem dX12_thing_31 : decode cX12_thing 31 = .ok (.bipush 40, 2) := by decide +kernel
theorem dX12_thing_33 : decode cX12_thing 33 = .ok (.if_icmp .ne 34, 3) := by decide +kernel
theorem dX12_thing_36 : decode cX12_thing 36 = .ok (.iload_n 1, 1) := by decide +kernel
theorem dX12_thing_37 : decode cX12_thing 37 = .ok (.iconst 4, 1) := by decide +kernel
theorem dX12_thing_38 : decode cX12_thing 38 = .ok (.if_icmp .ge 29, 3) := by decide +kernel
theorem dX12_thing_41 : decode cX12_thing 41 = .ok (.aload_n 0, 1) := by decide +kernel
theorem dX12_thing_42 : decode cX12_thing 42 = .ok (.dup, 1) := by decide +kernel
theorem dX12_thing_43 : decode cX12_thing 43 = .ok (.getfield 157, 3) := by decide +kernel
theorem dX12_thing_46 : decode cX12_thing 46 = .ok (.iconst 1, 1) := by decide +kernel
theorem dX12_thing_47 : decode cX12_thing 47 = .ok (.iadd, 1) := by decide +kernel
theorem dX12_thing_48 : decode cX12_thing 48 = .ok (.putfield 157, 3) := by decide +kernel
theorem dX12_thing_51 : decode cX12_thing 51 = .ok (.aload_n 0, 1) := by decide +kernel
theorem dX12_thing_52 : decode cX12_thing 52 = .ok (.iload_n 1, 1) := by decide +kernel
theorem dX12_thing_53 : decode cX12_thing 53 = .ok (.iconst 1, 1) := by decide +kernel
theorem dX12_thing_54 : decode cX12_thing 54 = .ok (.iadd, 1) := by decide +kernel
theorem dX12_thing_55 : decode cX12_thing 55 = .ok (.invokevirtual 210, 3) := by decide +kernel
theorem dX12_thing_58 : decode cX12_thing 58 = .ok (.istore_n 3, 1) := by decide +kernel
theorem dX12_thing_59 : decode cX12_thing 59 = .ok (.aload_n 0, 1) := by decide +kernel
theorem dX12_thing_60 : decode cX12_thing 60 = .ok (.bipush 41, 2) := by decide +kernel
theorem dX12_thing_62 : decode cX12_thing 62 = .ok (.invokevirtual 187, 3) := by decide +kernel
theorem dX12_thing_65 : decode cX12_thing 65 = .ok (.iload_n 3, 1) := by decide +kernel
theorem dX12_thing_66 : decode cX12_thing 66 = .ok (.ireturn, 1) := by decide +kernel
theorem dX12_thing_67 : decode cX12_thing 67 = .ok (.iload_n 2, 1) := by decide +kernel
theorem dX12_thing_68 : decode cX12_thing 68 = .ok (.bipush 48, 2) := by decide +kernel
theorem dX12_thing_70 : decode cX12_thing 70 = .ok (.bipush 57, 2) := by decide +kernel
theorem dX12_thing_72 : decode cX12_thing 72 = .ok (.invokestatic 137, 3) := by decide +kernel
theorem dX12_thing_75 : decode cX12_thing 75 = .ok (.ifCond .eq 13, 3) := by decide +kernel
theorem dX12_thing_78 : decode cX12_thing 78 = .ok (.aload_n 0, 1) := by decide +kernel
theorem dX12_thing_79 : decode cX12_thing 79 = .ok (.iconst 3, 1) := by decide +kernel
theorem dX12_thing_80 : decode cX12_thing 80 = .ok (.iconst 0, 1) := by decide +kernel
theorem dX12_thing_81 : decode cX12_thing 81 = .ok (.sipush 999, 3) := by decide +kernel
theorem dX12_thing_84 : decode cX12_thing 84 = .ok (.invokevirtual 183, 3) := by decide +kernel
theorem dX12_thing_87 : decode cX12_thing 87 = .ok (.ireturn, 1) := by decide +kernel
theorem dX12_thing_88 : decode cX12_thing 88 = .ok (.iload_n 2, 1) := by decide +kernel
theorem dX12_thing_89 : decode cX12_thing 89 = .ok (.bipush 106, 2) := by decide +kernel
theorem dX12_thing_91 : decode cX12_thing 91 = .ok (.if_icmp .eq 67, 3) := by decide +kernel
theorem dX12_thing_94 : decode cX12_thing 94 = .ok (.iload_n 2, 1) := by decide +kernel
theorem dX12_thing_95 : decode cX12_thing 95 = .ok (.bipush 98, 2) := by decide +kernel
theorem dX12_thing_97 : decode cX12_thing 97 = .ok (.if_icmp .eq 61, 3) := by decide +kernel
theorem dX12_thing_100 : decode cX12_thing 100 = .ok (.iload_n 2, 1) := by decide +kernel
theorem dX12_thing_101 : decode cX12_thing 101 = .ok (.bipush 116, 2) := by decide +kernel
theorem dX12_thing_103 : decode cX12_thing 103 = .ok (.if_icmp .eq 55, 3) := by decide +kernel
theorem dX12_thing_106 : decode cX12_thing 106 = .ok (.iload_n 2, 1) := by decide +kernel
theorem dX12_thing_107 : decode cX12_thing 107 = .ok (.bipush 108, 2) := by decide +kernel
theorem dX12_thing_109 : decode cX12_thing 109 = .ok (.if_icmp .eq 49, 3) := by decide +kernel
theorem dX12_thing_112 : decode cX12_thing 112 = .ok (.iload_n 2, 1) := by decide +kernel
theorem dX12_thing_113 : decode cX12_thing 113 = .ok (.bipush 104, 2) := by decide +kernel
theorem dX12_thing_115 : decode cX12_thing 115 = .ok (.if_icmp .eq 43, 3) := by decide +kernel
theorem dX12_thing_118 : decode cX12_thing 118 = .ok (.iload_n 2, 1) := by decide +kernel
theorem dX12_thing_119 : decode cX12_thing 119 = .ok (.bipush 99, 2) := by decide +kernel
theorem dX12_thing_121 : decode cX12_thing 121 = .ok (.if_icmp .eq 37, 3) := by decide +kernel
theorem dX12_thing_124 : decode cX12_thing 124 = .ok (.iload_n 2, 1) := by decide +kernel
theorem dX12_thing_125 : decode cX12_thing 125 = .ok (.bipush 111, 2) := by decide +kernel
theorem dX12_thing_127 : decode cX12_thing 127 = .ok (.if_icmp .eq 31, 3) := by decide +kernel
theorem dX12_thing_130 : decode cX12_thing 130 = .ok (.iload_n 2, 1) := by decide +kernel
theorem dX12_thing_131 : decode cX12_thing 131 = .ok (.bipush 103, 2) := by decide +kernel
theorem dX12_thing_133 : decode cX12_thing 133 = .ok (.if_icmp .eq 25, 3) := by decide +kernel
theorem dX12_thing_136 : decode cX12_thing 136 = .ok (.iload_n 2, 1) := by decide +kernel
theorem dX12_thing_137 : decode cX12_thing 137 = .ok (.bipush 119, 2) := by decide +kernel
theorem dX12_thing_139 : decode cX12_thing 139 = .ok (.if_icmp .eq 19, 3) := by decide +kernel
theorem dX12_thing_142 : decode cX12_thing 142 = .ok (.iload_n 2, 1) := by decide +kernel
theorem dX12_thing_143 : decode cX12_thing 143 = .ok (.bipush 100, 2) := by decide +kernel
theorem dX12_thing_145 : decode cX12_thing 145 = .ok (.if_icmp .eq 13, 3) := by decide +kernel
theorem dX12_thing_148 : decode cX12_thing 148 = .ok (.aload_n 0, 1) := by decide +kernel
theorem dX12_thing_149 : decode cX12_thing 149 = .ok (.aload_n 0, 1) := by decide +kernel
theorem dX12_thing_150 : decode cX12_thing 150 = .ok (.getfield 157, 3) := by decide +kernel
theorem dX12_thing_153 : decode cX12_thing 153 = .ok (.invokevirtual 175, 3) := by decide +kernel
theorem dX12_thing_156 : decode cX12_thing 156 = .ok (.iconst 0, 1) := by decide +kernel
theorem dX12_thing_157 : decode cX12_thing 157 = .ok (.ireturn, 1) := by decide +kernel
theorem dX12_thing_158 : decode cX12_thing 158 = .ok (.aload_n 0, 1) := by decide +kernel
theorem dX12_thing_159 : decode cX12_thing 159 = .ok (.dup, 1) := by decide +kernel
theorem dX12_thing_160 : decode cX12_thing 160 = .ok (.getfield 157, 3) := by decide +kernel
theorem dX12_thing_163 : decode cX12_thing 163 = .ok (.iconst 1, 1) := by decide +kernel
theorem dX12_thing_164 : decode cX12_thing 164 = .ok (.iadd, 1) := by decide +kernel
theorem dX12_thing_165 : decode cX12_thing 165 = .ok (.putfield 157, 3) := by decide +kernel
theorem dX12_thing_168 : decode cX12_thing 168 = .ok (.aload_n 0, 1) := by decide +kernel
theorem dX12_thing_169 : decode cX12_thing 169 = .ok (.getfield 54, 3) := by decide +kernel
theorem dX12_thing_172 : decode cX12_thing 172 = .ok (.iconst (-1), 1) := by decide +kernel
theorem dX12_thing_173 : decode cX12_thing 173 = .ok (.if_icmp .ne 7, 3) := by decide +kernel
theorem dX12_thing_176 : decode cX12_thing 176 = .ok (.iconst 0, 1) := by decide +kernel
theorem dX12_thing_177 : decode cX12_thing 177 = .ok (.goto 8, 3) := by decide +kernel
theorem dX12_thing_180 : decode cX12_thing 180 = .ok (.aload_n 0, 1) := by decide +kernel
theorem dX12_thing_181 : decode cX12_thing 181 = .ok (.iload_n 2, 1) := by decide +kernel
theorem dX12_thing_182 : decode cX12_thing 182 = .ok (.invokevirtual 213, 3) := by decide +kernel
theorem dX12_thing_185 : decode cX12_thing 185 = .ok (.ireturn, 1) := by decide +kernel
theorem bkX12_thing_0 {b : Int} {mem : qm} {Q : Int → qm → Prop}
    {w : Int}
    {dd : Nat}
    (hd9 : 10 ≤ dd)
    {P1 : Int → qm → Prop}
    (l1 : q_Ev yX12_passes cX12_passes 2 (some .boolean) 2 0 0 [(2, 188), (0, 45)] (q_sh0, q_rb b, mem) (qK (q_rb b) (P1)))
    {P4 : Int → qm → Int → qm → Prop}
    (l2 : ∀ (r1 : Int), ∀ (m1 : qm), P1 r1 m1 → q_in32 r1 → r1 = 0 → ((m1 188 22) = -1) → q_Ev yX12_here cX12_here 1 (some .int) 1 0 0 [(2, 188)] (q_sh0, q_rb b, m1) (qK (q_rb b) (P4 r1 m1)))
    (l3 : ∀ (r1 : Int), ∀ (m1 : qm), P1 r1 m1 → q_in32 r1 → r1 = 0 → ((m1 188 22) = -1) → ∀ (r4 : Int), ∀ (m4 : qm), P4 r1 m1 r4 m4 → q_in32 r4 → r4 ≠ 40 → q_At yX12_thing cX12_thing 4 (some .int) (dd + 1) 0 0 (qK (q_rb b) Q) 67 [(2, 188), (0, w), (0, r4), (4, 0)] [] (q_sh0, q_rb b, m4))
    (l4 : ∀ (r1 : Int), ∀ (m1 : qm), P1 r1 m1 → q_in32 r1 → r1 = 0 → ((m1 188 22) = -1) → ∀ (r4 : Int), ∀ (m4 : qm), P4 r1 m1 r4 m4 → q_in32 r4 → r4 = 40 → 4 ≤ w → q_At yX12_thing cX12_thing 4 (some .int) (dd + 1) 0 0 (qK (q_rb b) Q) 67 [(2, 188), (0, w), (0, r4), (4, 0)] [] (q_sh0, q_rb b, m4))
    (o5 : ∀ (r1 : Int), ∀ (m1 : qm), P1 r1 m1 → q_in32 r1 → r1 = 0 → ((m1 188 22) = -1) → ∀ (r4 : Int), ∀ (m4 : qm), P4 r1 m1 r4 m4 → q_in32 r4 → r4 = 40 → w < 4 → q_in32 ((m4 188 21) + 1) ∧ q_in32 (w + 1))
    {P7 : Int → qm → Int → qm → Int → qm → Prop}
    (l6 : ∀ (r1 : Int), ∀ (m1 : qm), P1 r1 m1 → q_in32 r1 → r1 = 0 → ((m1 188 22) = -1) → ∀ (r4 : Int), ∀ (m4 : qm), P4 r1 m1 r4 m4 → q_in32 r4 → r4 = 40 → w < 4 → q_Ev yX12_held cX12_held 3 (some .int) dd 0 0 [(2, 188), (0, (w + 1))] (q_sh0, q_rb b, (q_up m4 188 21 ((m4 188 21) + 1))) (qK (q_rb b) (P7 r1 m1 r4 m4)))
    {P8 : Int → qm → Int → qm → Int → qm → Int → qm → Prop}
    (l7 : ∀ (r1 : Int), ∀ (m1 : qm), P1 r1 m1 → q_in32 r1 → r1 = 0 → ((m1 188 22) = -1) → ∀ (r4 : Int), ∀ (m4 : qm), P4 r1 m1 r4 m4 → q_in32 r4 → r4 = 40 → w < 4 → ∀ (r7 : Int), ∀ (m7 : qm), P7 r1 m1 r4 m4 r7 m7 → q_in32 r7 → q_Ev yX12_need cX12_need 2 none 3 0 0 [(2, 188), (0, 41)] (q_sh0, q_rb b, m7) (qK (q_rb b) (P8 r1 m1 r4 m4 r7 m7)))
    (l8 : ∀ (r1 : Int), ∀ (m1 : qm), P1 r1 m1 → q_in32 r1 → r1 = 0 → ((m1 188 22) = -1) → ∀ (r4 : Int), ∀ (m4 : qm), P4 r1 m1 r4 m4 → q_in32 r4 → r4 = 40 → w < 4 → ∀ (r7 : Int), ∀ (m7 : qm), P7 r1 m1 r4 m4 r7 m7 → q_in32 r7 → ∀ (r8 : Int), ∀ (m8 : qm), P8 r1 m1 r4 m4 r7 m7 r8 m8 → q_in32 r8 → Q r7 m8)
    (l9 : ∀ (r1 : Int), ∀ (m1 : qm), P1 r1 m1 → q_in32 r1 → r1 = 0 → ¬ ((m1 188 22) = -1) → Q 0 m1)
    {P9 : Int → qm → Int → qm → Prop}
    (l10 : ∀ (r1 : Int), ∀ (m1 : qm), P1 r1 m1 → q_in32 r1 → r1 ≠ 0 → q_Ev yX12_thing cX12_thing 4 (some .int) dd 0 0 [(2, 188), (0, w)] (q_sh0, q_rb b, m1) (qK (q_rb b) (P9 r1 m1)))
    (l11 : ∀ (r1 : Int), ∀ (m1 : qm), P1 r1 m1 → q_in32 r1 → r1 ≠ 0 → ∀ (r9 : Int), ∀ (m9 : qm), P9 r1 m1 r9 m9 → q_in32 r9 → Q (q_oineg r9) m9) :
    q_At yX12_thing cX12_thing 4 (some .int) (dd + 1) 0 0 (qK (q_rb b) Q) 0 [(2, 188), (0, w), (4, 0), (4, 0)] [] (q_sh0, q_rb b, mem) := by
  refine q_aload_n dX12_thing_0 rfl rfl ?_
  refine qx_bipush dX12_thing_1 rfl rfl ?_
  refine qx_invV (ci := 12) [(0, 45)] [(0, 45), (2, 188)] rfl qM_X12_passes dX12_thing_3 tw1377 rfl qs188 rfl (Nat.ble_eq_true_of_le (by omega)) rfl rfl (l1) (fun r1 m1 p1 q1 => ?_)
  refine qx_if_eq (tgt := 16) dX12_thing_6 (by decide) (fun c2 => ?_) (fun c2 => ?_)
  · skip
    refine q_aload_n dX12_thing_16 rfl rfl ?_
    refine qx_invV (ci := 12) [] [(2, 188)] rfl qM_X12_fine dX12_thing_17 tw1373 rfl qs188 rfl (Nat.ble_eq_true_of_le (by omega)) rfl rfl (spX12_fine) (fun r3 m3 p3 q3 => ?_)
    obtain ⟨p3e, ⟨p3f, p3⟩ | ⟨p3f, p3⟩⟩ := p3
    · rw [p3e, p3f]
      refine qx_if_ne (tgt := 25) dX12_thing_20 (by decide) (fun _ => ?_) (fun z => absurd z (by decide))
      refine q_aload_n dX12_thing_25 rfl rfl ?_
      refine qx_invV (ci := 12) [] [(2, 188)] rfl qM_X12_here dX12_thing_26 tw1381 rfl qs188 rfl (Nat.ble_eq_true_of_le (by omega)) rfl rfl (l2 r1 m1 p1 q1 c2 p3) (fun r4 m4 p4 q4 => ?_)
      refine qx_istore_n (L' := [(2, 188), (0, w), (0, r4), (4, 0)]) dX12_thing_29 rfl rfl rfl rfl ?_
      refine q_iload_n dX12_thing_30 rfl rfl ?_
      refine qx_bipush dX12_thing_31 rfl rfl ?_
      refine qx_icmp_ne (tgt := 67) dX12_thing_33 (by decide) (fun c5 => ?_) (fun c5 => ?_)
      · skip
        exact l3 r1 m1 p1 q1 c2 p3 r4 m4 p4 q4 c5
      · skip
        refine q_iload_n dX12_thing_36 rfl rfl ?_
        refine qx_iconst dX12_thing_37 rfl rfl ?_
        refine qx_icmp_ge (tgt := 67) dX12_thing_38 (by decide) (fun c6 => ?_) (fun c6 => ?_)
        · skip
          exact l4 r1 m1 p1 q1 c2 p3 r4 m4 p4 q4 c5 c6
        · skip
          refine q_aload_n dX12_thing_41 rfl rfl ?_
          refine q_dup dX12_thing_42 (fun h => by cases h) ?_
          refine qx_getI (ci := 12) (k := 21) (v := (m4 188 21)) dX12_thing_43 rfl rfl rfl tw1204 rfl qs188 rfl ?_
          refine qx_iconst dX12_thing_46 rfl rfl ?_
          refine qx_iadd dX12_thing_47 (o5 r1 m1 p1 q1 c2 p3 r4 m4 p4 q4 c5 c6).1 ?_
          refine q_putI (ci := 12) (k := 21) (kI := 21) (ty := .int) dX12_thing_48 rfl (by decide) rfl tw1204 rfl rfl rfl (fun _ => ⟨rfl, rfl⟩) qs188 ?_
          refine q_aload_n dX12_thing_51 rfl rfl ?_
          refine q_iload_n dX12_thing_52 rfl rfl ?_
          refine qx_iconst dX12_thing_53 rfl rfl ?_
          refine qx_iadd dX12_thing_54 (o5 r1 m1 p1 q1 c2 p3 r4 m4 p4 q4 c5 c6).2 ?_
          refine qx_invV (ci := 12) [(0, (w + 1))] [(0, (w + 1)), (2, 188)] rfl qM_X12_held dX12_thing_55 tw1405 rfl qs188 rfl (Nat.ble_eq_true_of_le (by omega)) rfl rfl (l6 r1 m1 p1 q1 c2 p3 r4 m4 p4 q4 c5 c6) (fun r7 m7 p7 q7 => ?_)
          refine qx_istore_n (L' := [(2, 188), (0, w), (0, r4), (0, r7)]) dX12_thing_58 rfl rfl rfl rfl ?_
          refine q_aload_n dX12_thing_59 rfl rfl ?_
          refine qx_bipush dX12_thing_60 rfl rfl ?_
          refine qx_invV (ci := 12) [(0, 41)] [(0, 41), (2, 188)] rfl qM_X12_need dX12_thing_62 tw1393 rfl qs188 rfl (Nat.ble_eq_true_of_le (by omega)) rfl rfl (l7 r1 m1 p1 q1 c2 p3 r4 m4 p4 q4 c5 c6 r7 m7 p7 q7) (fun r8 m8 p8 q8 => ?_)
          refine q_iload_n dX12_thing_65 rfl rfl ?_
          exact q_iret dX12_thing_66 (qK_i (l8 r1 m1 p1 q1 c2 p3 r4 m4 p4 q4 c5 c6 r7 m7 p7 q7 r8 m8 p8 q8))
    · rw [p3e, p3f]
      refine qx_if_ne (tgt := 25) dX12_thing_20 (by decide) (fun z => absurd z (by decide)) (fun _ => ?_)
      refine qx_iconst dX12_thing_23 rfl rfl ?_
      exact q_iret dX12_thing_24 (qK_i (l9 r1 m1 p1 q1 c2 p3))
  · skip
    refine q_aload_n dX12_thing_9 rfl rfl ?_
    refine q_iload_n dX12_thing_10 rfl rfl ?_
    refine qx_invV (ci := 12) [(0, w)] [(0, w), (2, 188)] rfl qM_X12_thing dX12_thing_11 tw1417 rfl qs188 rfl (Nat.ble_eq_true_of_le (by omega)) rfl rfl (l10 r1 m1 p1 q1 c2) (fun r9 m9 p9 q9 => ?_)
    refine q_ineg dX12_thing_14 ?_
    exact q_iret dX12_thing_15 (qK_i (l11 r1 m1 p1 q1 c2 r9 m9 p9 q9))
theorem bkX12_thing_67 {b : Int} {mem : qm} {Q : Int → qm → Prop}
    {w v2 : Int}
    {dd : Nat}
    (hd9 : 10 ≤ dd)
    {P2 : Int → qm → Prop}
    (l1 : (48 ≤ v2 ∧ v2 ≤ 57) → q_Ev yX12_number cX12_number 6 (some .int) 3 0 0 [(2, 188), (0, 3), (0, 0), (0, 999)] (q_sh0, q_rb b, mem) (qK (q_rb b) (P2)))
    (l2 : (48 ≤ v2 ∧ v2 ≤ 57) → ∀ (r2 : Int), ∀ (m2 : qm), P2 r2 m2 → q_in32 r2 → Q r2 m2)
    (l3 : ¬ (48 ≤ v2 ∧ v2 ≤ 57) → q_At yX12_thing cX12_thing 4 (some .int) (dd + 1) 0 0 (qK (q_rb b) Q) 88 [(2, 188), (0, w), (0, v2), (4, 0)] [] (q_sh0, q_rb b, mem)) :
    q_At yX12_thing cX12_thing 4 (some .int) (dd + 1) 0 0 (qK (q_rb b) Q) 67 [(2, 188), (0, w), (0, v2), (4, 0)] [] (q_sh0, q_rb b, mem) := by
  refine q_iload_n dX12_thing_67 rfl rfl ?_
  refine qx_bipush dX12_thing_68 rfl rfl ?_
  refine qx_bipush dX12_thing_70 rfl rfl ?_
  refine qx_invS [(0, v2), (0, 48), (0, 57)] [(0, 57), (0, 48), (0, v2)] rfl qM_X12_in dX12_thing_72 tw1362 rfl (Nat.ble_eq_true_of_le (by omega)) rfl rfl (spX12_in) (fun r1 m1 p1 q1 => ?_)
  obtain ⟨p1e, ⟨p1f, p1⟩ | ⟨p1f, p1⟩⟩ := p1
  · rw [p1e, p1f]
    refine qx_if_eq (tgt := 88) dX12_thing_75 (by decide) (fun z => absurd z (by decide)) (fun _ => ?_)
    refine q_aload_n dX12_thing_78 rfl rfl ?_
    refine qx_iconst dX12_thing_79 rfl rfl ?_
    refine qx_iconst dX12_thing_80 rfl rfl ?_
    refine qx_sipush dX12_thing_81 rfl rfl ?_
    refine qx_invV (ci := 12) [(0, 3), (0, 0), (0, 999)] [(0, 999), (0, 0), (0, 3), (2, 188)] rfl qM_X12_number dX12_thing_84 tw1385 rfl qs188 rfl (Nat.ble_eq_true_of_le (by omega)) rfl rfl (l1 p1) (fun r2 m2 p2 q2 => ?_)
    exact q_iret dX12_thing_87 (qK_i (l2 p1 r2 m2 p2 q2))
  · rw [p1e, p1f]
    refine qx_if_eq (tgt := 88) dX12_thing_75 (by decide) (fun _ => ?_) (fun z => absurd z (by decide))
    exact l3 p1
theorem bkX12_thing_88 {b : Int} {mem : qm} {Q : Int → qm → Prop}
    {w v2 : Int}
    {dd : Nat}
    (hd9 : 10 ≤ dd)
    (l1 : v2 = 106 → q_At yX12_thing cX12_thing 4 (some .int) (dd + 1) 0 0 (qK (q_rb b) Q) 158 [(2, 188), (0, w), (0, v2), (4, 0)] [] (q_sh0, q_rb b, mem))
    (l2 : v2 ≠ 106 → v2 = 98 → q_At yX12_thing cX12_thing 4 (some .int) (dd + 1) 0 0 (qK (q_rb b) Q) 158 [(2, 188), (0, w), (0, v2), (4, 0)] [] (q_sh0, q_rb b, mem))
    (l3 : v2 ≠ 106 → v2 ≠ 98 → v2 = 116 → q_At yX12_thing cX12_thing 4 (some .int) (dd + 1) 0 0 (qK (q_rb b) Q) 158 [(2, 188), (0, w), (0, v2), (4, 0)] [] (q_sh0, q_rb b, mem))
    (l4 : v2 ≠ 106 → v2 ≠ 98 → v2 ≠ 116 → v2 = 108 → q_At yX12_thing cX12_thing 4 (some .int) (dd + 1) 0 0 (qK (q_rb b) Q) 158 [(2, 188), (0, w), (0, v2), (4, 0)] [] (q_sh0, q_rb b, mem))
    (l5 : v2 ≠ 106 → v2 ≠ 98 → v2 ≠ 116 → v2 ≠ 108 → v2 = 104 → q_At yX12_thing cX12_thing 4 (some .int) (dd + 1) 0 0 (qK (q_rb b) Q) 158 [(2, 188), (0, w), (0, v2), (4, 0)] [] (q_sh0, q_rb b, mem))
    (l6 : v2 ≠ 106 → v2 ≠ 98 → v2 ≠ 116 → v2 ≠ 108 → v2 ≠ 104 → v2 = 99 → q_At yX12_thing cX12_thing 4 (some .int) (dd + 1) 0 0 (qK (q_rb b) Q) 158 [(2, 188), (0, w), (0, v2), (4, 0)] [] (q_sh0, q_rb b, mem))
    (l7 : v2 ≠ 106 → v2 ≠ 98 → v2 ≠ 116 → v2 ≠ 108 → v2 ≠ 104 → v2 ≠ 99 → v2 = 111 → q_At yX12_thing cX12_thing 4 (some .int) (dd + 1) 0 0 (qK (q_rb b) Q) 158 [(2, 188), (0, w), (0, v2), (4, 0)] [] (q_sh0, q_rb b, mem))
    (l8 : v2 ≠ 106 → v2 ≠ 98 → v2 ≠ 116 → v2 ≠ 108 → v2 ≠ 104 → v2 ≠ 99 → v2 ≠ 111 → v2 = 103 → q_At yX12_thing cX12_thing 4 (some .int) (dd + 1) 0 0 (qK (q_rb b) Q) 158 [(2, 188), (0, w), (0, v2), (4, 0)] [] (q_sh0, q_rb b, mem))
    (l9 : v2 ≠ 106 → v2 ≠ 98 → v2 ≠ 116 → v2 ≠ 108 → v2 ≠ 104 → v2 ≠ 99 → v2 ≠ 111 → v2 ≠ 103 → v2 = 119 → q_At yX12_thing cX12_thing 4 (some .int) (dd + 1) 0 0 (qK (q_rb b) Q) 158 [(2, 188), (0, w), (0, v2), (4, 0)] [] (q_sh0, q_rb b, mem))
    (l10 : v2 ≠ 106 → v2 ≠ 98 → v2 ≠ 116 → v2 ≠ 108 → v2 ≠ 104 → v2 ≠ 99 → v2 ≠ 111 → v2 ≠ 103 → v2 ≠ 119 → v2 = 100 → q_At yX12_thing cX12_thing 4 (some .int) (dd + 1) 0 0 (qK (q_rb b) Q) 158 [(2, 188), (0, w), (0, v2), (4, 0)] [] (q_sh0, q_rb b, mem))
    {P11 : Int → qm → Prop}
    (l11 : v2 ≠ 106 → v2 ≠ 98 → v2 ≠ 116 → v2 ≠ 108 → v2 ≠ 104 → v2 ≠ 99 → v2 ≠ 111 → v2 ≠ 103 → v2 ≠ 119 → v2 ≠ 100 → q_Ev yX12_fault cX12_fault 2 none 2 0 0 [(2, 188), (0, (mem 188 21))] (q_sh0, q_rb b, mem) (qK (q_rb b) (P11)))
    (l12 : v2 ≠ 106 → v2 ≠ 98 → v2 ≠ 116 → v2 ≠ 108 → v2 ≠ 104 → v2 ≠ 99 → v2 ≠ 111 → v2 ≠ 103 → v2 ≠ 119 → v2 ≠ 100 → ∀ (r11 : Int), ∀ (m11 : qm), P11 r11 m11 → q_in32 r11 → Q 0 m11) :
    q_At yX12_thing cX12_thing 4 (some .int) (dd + 1) 0 0 (qK (q_rb b) Q) 88 [(2, 188), (0, w), (0, v2), (4, 0)] [] (q_sh0, q_rb b, mem) := by
  refine q_iload_n dX12_thing_88 rfl rfl ?_
  refine qx_bipush dX12_thing_89 rfl rfl ?_
  refine qx_icmp_eq (tgt := 158) dX12_thing_91 (by decide) (fun c1 => ?_) (fun c1 => ?_)
  · skip
    exact l1 c1
  · skip
    refine q_iload_n dX12_thing_94 rfl rfl ?_
    refine qx_bipush dX12_thing_95 rfl rfl ?_
    refine qx_icmp_eq (tgt := 158) dX12_thing_97 (by decide) (fun c2 => ?_) (fun c2 => ?_)
    · skip
      exact l2 c1 c2
    · skip
      refine q_iload_n dX12_thing_100 rfl rfl ?_
      refine qx_bipush dX12_thing_101 rfl rfl ?_
      refine qx_icmp_eq (tgt := 158) dX12_thing_103 (by decide) (fun c3 => ?_) (fun c3 => ?_)
      · skip
        exact l3 c1 c2 c3
      · skip
        refine q_iload_n dX12_thing_106 rfl rfl ?_
        refine qx_bipush dX12_thing_107 rfl rfl ?_
        refine qx_icmp_eq (tgt := 158) dX12_thing_109 (by decide) (fun c4 => ?_) (fun c4 => ?_)
        · skip
          exact l4 c1 c2 c3 c4
        · skip
          refine q_iload_n dX12_thing_112 rfl rfl ?_
          refine qx_bipush dX12_thing_113 rfl rfl ?_
          refine qx_icmp_eq (tgt := 158) dX12_thing_115 (by decide) (fun c5 => ?_) (fun c5 => ?_)
          · skip
            exact l5 c1 c2 c3 c4 c5
          · skip
            refine q_iload_n dX12_thing_118 rfl rfl ?_
            refine qx_bipush dX12_thing_119 rfl rfl ?_
            refine qx_icmp_eq (tgt := 158) dX12_thing_121 (by decide) (fun c6 => ?_) (fun c6 => ?_)
            · skip
              exact l6 c1 c2 c3 c4 c5 c6
            · skip
              refine q_iload_n dX12_thing_124 rfl rfl ?_
              refine qx_bipush dX12_thing_125 rfl rfl ?_
              refine qx_icmp_eq (tgt := 158) dX12_thing_127 (by decide) (fun c7 => ?_) (fun c7 => ?_)
              · skip
                exact l7 c1 c2 c3 c4 c5 c6 c7
              · skip
                refine q_iload_n dX12_thing_130 rfl rfl ?_
                refine qx_bipush dX12_thing_131 rfl rfl ?_
                refine qx_icmp_eq (tgt := 158) dX12_thing_133 (by decide) (fun c8 => ?_) (fun c8 => ?_)
                · skip
                  exact l8 c1 c2 c3 c4 c5 c6 c7 c8
                · skip
                  refine q_iload_n dX12_thing_136 rfl rfl ?_
                  refine qx_bipush dX12_thing_137 rfl rfl ?_
                  refine qx_icmp_eq (tgt := 158) dX12_thing_139 (by decide) (fun c9 => ?_) (fun c9 => ?_)
                  · skip
                    exact l9 c1 c2 c3 c4 c5 c6 c7 c8 c9
                  · skip
                    refine q_iload_n dX12_thing_142 rfl rfl ?_
                    refine qx_bipush dX12_thing_143 rfl rfl ?_
                    refine qx_icmp_eq (tgt := 158) dX12_thing_145 (by decide) (fun c10 => ?_) (fun c10 => ?_)
                    · skip
                      exact l10 c1 c2 c3 c4 c5 c6 c7 c8 c9 c10
                    · skip
                      refine q_aload_n dX12_thing_148 rfl rfl ?_
                      refine q_aload_n dX12_thing_149 rfl rfl ?_
                      refine qx_getI (ci := 12) (k := 21) (v := (mem 188 21)) dX12_thing_150 rfl rfl rfl tw1204 rfl qs188 rfl ?_
                      refine qx_invV (ci := 12) [(0, (mem 188 21))] [(0, (mem 188 21)), (2, 188)] rfl qM_X12_fault dX12_thing_153 tw1389 rfl qs188 rfl (Nat.ble_eq_true_of_le (by omega)) rfl rfl (l11 c1 c2 c3 c4 c5 c6 c7 c8 c9 c10) (fun r11 m11 p11 q11 => ?_)
                      refine qx_iconst dX12_thing_156 rfl rfl ?_
                      exact q_iret dX12_thing_157 (qK_i (l12 c1 c2 c3 c4 c5 c6 c7 c8 c9 c10 r11 m11 p11 q11))
theorem bkX12_thing_158 {b : Int} {mem : qm} {Q : Int → qm → Prop}
    {w v2 : Int}
    {dd : Nat}
    (hd9 : 10 ≤ dd)
    (o1 : q_in32 ((mem 188 21) + 1))
    {P2 : Int → qm → Prop}
    (l2 : (mem 188 26) ≠ (-1) → q_Ev yX12_letter cX12_letter 3 (some .int) 2 0 0 [(2, 188), (0, v2)] (q_sh0, q_rb b, (q_up mem 188 21 ((mem 188 21) + 1))) (qK (q_rb b) (P2)))
    (l3 : (mem 188 26) ≠ (-1) → ∀ (r2 : Int), ∀ (m2 : qm), P2 r2 m2 → q_in32 r2 → Q r2 m2)
    (l4 : (mem 188 26) = (-1) → Q 0 (q_up mem 188 21 ((mem 188 21) + 1))) :
    q_At yX12_thing cX12_thing 4 (some .int) (dd + 1) 0 0 (qK (q_rb b) Q) 158 [(2, 188), (0, w), (0, v2), (4, 0)] [] (q_sh0, q_rb b, mem) := by
  refine q_aload_n dX12_thing_158 rfl rfl ?_
  refine q_dup dX12_thing_159 (fun h => by cases h) ?_
  refine qx_getI (ci := 12) (k := 21) (v := (mem 188 21)) dX12_thing_160 rfl rfl rfl tw1204 rfl qs188 rfl ?_
  refine qx_iconst dX12_thing_163 rfl rfl ?_
  refine qx_iadd dX12_thing_164 (o1) ?_
  refine q_putI (ci := 12) (k := 21) (kI := 21) (ty := .int) dX12_thing_165 rfl (by decide) rfl tw1204 rfl rfl rfl (fun _ => ⟨rfl, rfl⟩) qs188 ?_
  refine q_aload_n dX12_thing_168 rfl rfl ?_
  refine qx_getI (ci := 12) (k := 26) (v := (mem 188 26)) dX12_thing_169 rfl rfl rfl tw1209 rfl qs188 (q_up_i (by decide)) ?_
  refine qx_iconst dX12_thing_172 rfl rfl ?_
  refine qx_icmp_ne (tgt := 180) dX12_thing_173 (by decide) (fun c1 => ?_) (fun c1 => ?_)
  · skip
    refine q_aload_n dX12_thing_180 rfl rfl ?_
    refine q_iload_n dX12_thing_181 rfl rfl ?_
    refine qx_invV (ci := 12) [(0, v2)] [(0, v2), (2, 188)] rfl qM_X12_letter dX12_thing_182 tw1421 rfl qs188 rfl (Nat.ble_eq_true_of_le (by omega)) rfl rfl (l2 c1) (fun r2 m2 p2 q2 => ?_)
    exact q_iret dX12_thing_185 (qK_i (l3 c1 r2 m2 p2 q2))
  · skip
    refine qx_iconst dX12_thing_176 rfl rfl ?_
    refine q_goto (tgt := 185) dX12_thing_177 (by decide) ?_
    exact q_iret dX12_thing_185 (qK_i (l4 c1))
theorem dX12_product_0 : decode cX12_product 0 = .ok (.aload_n 0, 1) := by decide +kernel
theorem dX12_product_1 : decode cX12_product 1 = .ok (.iload_n 1, 1) := by decide +kernel
theorem dX12_product_2 : decode cX12_product 2 = .ok (.invokevirtual 207, 3) := by decide +kernel
theorem dX12_product_5 : decode cX12_product 5 = .ok (.istore_n 2, 1) := by decide +kernel
theorem dX12_product_6 : decode cX12_product 6 = .ok (.aload_n 0, 1) := by decide +kernel
theorem dX12_product_7 : decode cX12_product 7 = .ok (.invokevirtual 163, 3) := by decide +kernel
theorem dX12_product_10 : decode cX12_product 10 = .ok (.ifCond .eq 81, 3) := by decide +kernel
theorem dX12_product_13 : decode cX12_product 13 = .ok (.aload_n 0, 1) := by decide +kernel
theorem dX12_product_14 : decode cX12_product 14 = .ok (.invokevirtual 167, 3) := by decide +kernel
theorem dX12_product_17 : decode cX12_product 17 = .ok (.bipush 42, 2) := by decide +kernel
theorem dX12_product_19 : decode cX12_product 19 = .ok (.if_icmp .eq 12, 3) := by decide +kernel
theorem dX12_product_22 : decode cX12_product 22 = .ok (.aload_n 0, 1) := by decide +kernel
theorem dX12_product_23 : decode cX12_product 23 = .ok (.invokevirtual 167, 3) := by decide +kernel
theorem dX12_product_26 : decode cX12_product 26 = .ok (.bipush 47, 2) := by decide +kernel
theorem dX12_product_28 : decode cX12_product 28 = .ok (.if_icmp .ne 63, 3) := by decide +kernel
theorem dX12_product_31 : decode cX12_product 31 = .ok (.aload_n 0, 1) := by decide +kernel
theorem dX12_product_32 : decode cX12_product 32 = .ok (.invokevirtual 167, 3) := by decide +kernel
theorem dX12_product_35 : decode cX12_product 35 = .ok (.bipush 42, 2) := by decide +kernel
theorem dX12_product_37 : decode cX12_product 37 = .ok (.if_icmp .ne 7, 3) := by decide +kernel
theorem dX12_product_40 : decode cX12_product 40 = .ok (.iconst 1, 1) := by decide +kernel
theorem dX12_product_41 : decode cX12_product 41 = .ok (.goto 4, 3) := by decide +kernel
theorem dX12_product_44 : decode cX12_product 44 = .ok (.iconst 0, 1) := by decide +kernel
theorem dX12_product_45 : decode cX12_product 45 = .ok (.istore_n 3, 1) := by decide +kernel
theorem dX12_product_46 : decode cX12_product 46 = .ok (.aload_n 0, 1) := by decide +kernel
theorem dX12_product_47 : decode cX12_product 47 = .ok (.dup, 1) := by decide +kernel
theorem dX12_product_48 : decode cX12_product 48 = .ok (.getfield 157, 3) := by decide +kernel
theorem dX12_product_51 : decode cX12_product 51 = .ok (.iconst 1, 1) := by decide +kernel
theorem dX12_product_52 : decode cX12_product 52 = .ok (.iadd, 1) := by decide +kernel
theorem dX12_product_53 : decode cX12_product 53 = .ok (.putfield 157, 3) := by decide +kernel
theorem dX12_product_56 : decode cX12_product 56 = .ok (.aload_n 0, 1) := by decide +kernel
theorem dX12_product_57 : decode cX12_product 57 = .ok (.iload_n 1, 1) := by decide +kernel
theorem dX12_product_58 : decode cX12_product 58 = .ok (.invokevirtual 207, 3) := by decide +kernel
theorem dX12_product_61 : decode cX12_product 61 = .ok (.istore 4, 2) := by decide +kernel
theorem dX12_product_63 : decode cX12_product 63 = .ok (.iload_n 3, 1) := by decide +kernel
theorem dX12_product_64 : decode cX12_product 64 = .ok (.ifCond .eq 10, 3) := by decide +kernel
theorem dX12_product_67 : decode cX12_product 67 = .ok (.iload_n 2, 1) := by decide +kernel
theorem dX12_product_68 : decode cX12_product 68 = .ok (.iload 4, 2) := by decide +kernel
theorem dX12_product_70 : decode cX12_product 70 = .ok (.imul, 1) := by decide +kernel
theorem dX12_product_71 : decode cX12_product 71 = .ok (.goto 16, 3) := by decide +kernel
theorem dX12_product_74 : decode cX12_product 74 = .ok (.iload 4, 2) := by decide +kernel
theorem dX12_product_76 : decode cX12_product 76 = .ok (.ifCond .ne 7, 3) := by decide +kernel
theorem dX12_product_79 : decode cX12_product 79 = .ok (.iconst 0, 1) := by decide +kernel
theorem dX12_product_80 : decode cX12_product 80 = .ok (.goto 7, 3) := by decide +kernel
theorem dX12_product_83 : decode cX12_product 83 = .ok (.iload_n 2, 1) := by decide +kernel
theorem dX12_product_84 : decode cX12_product 84 = .ok (.iload 4, 2) := by decide +kernel
theorem dX12_product_86 : decode cX12_product 86 = .ok (.idiv, 1) := by decide +kernel
theorem dX12_product_87 : decode cX12_product 87 = .ok (.istore_n 2, 1) := by decide +kernel
theorem dX12_product_88 : decode cX12_product 88 = .ok (.goto (-82), 3) := by decide +kernel
theorem dX12_product_91 : decode cX12_product 91 = .ok (.iload_n 2, 1) := by decide +kernel
theorem dX12_product_92 : decode cX12_product 92 = .ok (.ireturn, 1) := by decide +kernel
theorem bkX12_product_0 {b : Int} {mem : qm} {Q : Int → qm → Prop}
    {w : Int}
    {dd : Nat}
    (hd9 : 10 ≤ dd)
    {P1 : Int → qm → Prop}
    (l1 : q_Ev yX12_thing cX12_thing 4 (some .int) dd 0 0 [(2, 188), (0, w)] (q_sh0, q_rb b, mem) (qK (q_rb b) (P1)))
    (l2 : ∀ (r1 : Int), ∀ (m1 : qm), P1 r1 m1 → q_in32 r1 → q_At yX12_product cX12_product 5 (some .int) (dd + 1) 0 0 (qK (q_rb b) Q) 6 [(2, 188), (0, w), (0, r1), (4, 0), (4, 0)] [] (q_sh0, q_rb b, m1)) :
    q_At yX12_product cX12_product 5 (some .int) (dd + 1) 0 0 (qK (q_rb b) Q) 0 [(2, 188), (0, w), (4, 0), (4, 0), (4, 0)] [] (q_sh0, q_rb b, mem) := by
  refine q_aload_n dX12_product_0 rfl rfl ?_
  refine q_iload_n dX12_product_1 rfl rfl ?_
  refine qx_invV (ci := 12) [(0, w)] [(0, w), (2, 188)] rfl qM_X12_thing dX12_product_2 tw1417 rfl qs188 rfl (Nat.ble_eq_true_of_le (by omega)) rfl rfl (l1) (fun r1 m1 p1 q1 => ?_)
  refine qx_istore_n (L' := [(2, 188), (0, w), (0, r1), (4, 0), (4, 0)]) dX12_product_5 rfl rfl rfl rfl ?_
  exact l2 r1 m1 p1 q1
theorem bkX12_product_6 {b : Int} {mem : qm} {Q : Int → qm → Prop}
    {w v2 : Int}
    {dd : Nat}
    (hd9 : 10 ≤ dd)
    {P2 : Int → qm → Prop}
    (l1 : ((mem 188 22) = -1) → q_Ev yX12_here cX12_here 1 (some .int) 1 0 0 [(2, 188)] (q_sh0, q_rb b, mem) (qK (q_rb b) (P2)))
    (l2 : ((mem 188 22) = -1) → ∀ (r2 : Int), ∀ (m2 : qm), P2 r2 m2 → q_in32 r2 → r2 = 42 → q_At yX12_product cX12_product 5 (some .int) (dd + 1) 0 0 (qK (q_rb b) Q) 31 [(2, 188), (0, w), (0, v2), (4, 0), (4, 0)] [] (q_sh0, q_rb b, m2))
    {P4 : Int → qm → Int → qm → Prop}
    (l3 : ((mem 188 22) = -1) → ∀ (r2 : Int), ∀ (m2 : qm), P2 r2 m2 → q_in32 r2 → r2 ≠ 42 → q_Ev yX12_here cX12_here 1 (some .int) 1 0 0 [(2, 188)] (q_sh0, q_rb b, m2) (qK (q_rb b) (P4 r2 m2)))
    (l4 : ((mem 188 22) = -1) → ∀ (r2 : Int), ∀ (m2 : qm), P2 r2 m2 → q_in32 r2 → r2 ≠ 42 → ∀ (r4 : Int), ∀ (m4 : qm), P4 r2 m2 r4 m4 → q_in32 r4 → r4 ≠ 47 → Q v2 m4)
    (l5 : ((mem 188 22) = -1) → ∀ (r2 : Int), ∀ (m2 : qm), P2 r2 m2 → q_in32 r2 → r2 ≠ 42 → ∀ (r4 : Int), ∀ (m4 : qm), P4 r2 m2 r4 m4 → q_in32 r4 → r4 = 47 → q_At yX12_product cX12_product 5 (some .int) (dd + 1) 0 0 (qK (q_rb b) Q) 31 [(2, 188), (0, w), (0, v2), (4, 0), (4, 0)] [] (q_sh0, q_rb b, m4))
    (l6 : ¬ ((mem 188 22) = -1) → Q v2 mem) :
    q_At yX12_product cX12_product 5 (some .int) (dd + 1) 0 0 (qK (q_rb b) Q) 6 [(2, 188), (0, w), (0, v2), (4, 0), (4, 0)] [] (q_sh0, q_rb b, mem) := by
  refine q_aload_n dX12_product_6 rfl rfl ?_
  refine qx_invV (ci := 12) [] [(2, 188)] rfl qM_X12_fine dX12_product_7 tw1373 rfl qs188 rfl (Nat.ble_eq_true_of_le (by omega)) rfl rfl (spX12_fine) (fun r1 m1 p1 q1 => ?_)
  obtain ⟨p1e, ⟨p1f, p1⟩ | ⟨p1f, p1⟩⟩ := p1
  · rw [p1e, p1f]
    refine qx_if_eq (tgt := 91) dX12_product_10 (by decide) (fun z => absurd z (by decide)) (fun _ => ?_)
    refine q_aload_n dX12_product_13 rfl rfl ?_
    refine qx_invV (ci := 12) [] [(2, 188)] rfl qM_X12_here dX12_product_14 tw1381 rfl qs188 rfl (Nat.ble_eq_true_of_le (by omega)) rfl rfl (l1 p1) (fun r2 m2 p2 q2 => ?_)
    refine qx_bipush dX12_product_17 rfl rfl ?_
    refine qx_icmp_eq (tgt := 31) dX12_product_19 (by decide) (fun c3 => ?_) (fun c3 => ?_)
    · skip
      exact l2 p1 r2 m2 p2 q2 c3
    · skip
      refine q_aload_n dX12_product_22 rfl rfl ?_
      refine qx_invV (ci := 12) [] [(2, 188)] rfl qM_X12_here dX12_product_23 tw1381 rfl qs188 rfl (Nat.ble_eq_true_of_le (by omega)) rfl rfl (l3 p1 r2 m2 p2 q2 c3) (fun r4 m4 p4 q4 => ?_)
      refine qx_bipush dX12_product_26 rfl rfl ?_
      refine qx_icmp_ne (tgt := 91) dX12_product_28 (by decide) (fun c5 => ?_) (fun c5 => ?_)
      · skip
        refine q_iload_n dX12_product_91 rfl rfl ?_
        exact q_iret dX12_product_92 (qK_i (l4 p1 r2 m2 p2 q2 c3 r4 m4 p4 q4 c5))
      · skip
        exact l5 p1 r2 m2 p2 q2 c3 r4 m4 p4 q4 c5
  · rw [p1e, p1f]
    refine qx_if_eq (tgt := 91) dX12_product_10 (by decide) (fun _ => ?_) (fun z => absurd z (by decide))
    refine q_iload_n dX12_product_91 rfl rfl ?_
    exact q_iret dX12_product_92 (qK_i (l6 p1))
theorem bkX12_product_31 {b : Int} {mem : qm} {Q : Int → qm → Prop}
    {w v2 : Int}
    {dd : Nat}
    (hd9 : 10 ≤ dd)
    {P1 : Int → qm → Prop}
    (l1 : q_Ev yX12_here cX12_here 1 (some .int) 1 0 0 [(2, 188)] (q_sh0, q_rb b, mem) (qK (q_rb b) (P1)))
    (l2 : ∀ (r1 : Int), ∀ (m1 : qm), P1 r1 m1 → q_in32 r1 → r1 ≠ 42 → q_At yX12_product cX12_product 5 (some .int) (dd + 1) 0 0 (qK (q_rb b) Q) 46 [(2, 188), (0, w), (0, v2), (0, 0), (4, 0)] [] (q_sh0, q_rb b, m1))
    (l3 : ∀ (r1 : Int), ∀ (m1 : qm), P1 r1 m1 → q_in32 r1 → r1 = 42 → q_At yX12_product cX12_product 5 (some .int) (dd + 1) 0 0 (qK (q_rb b) Q) 46 [(2, 188), (0, w), (0, v2), (0, 1), (4, 0)] [] (q_sh0, q_rb b, m1)) :
    q_At yX12_product cX12_product 5 (some .int) (dd + 1) 0 0 (qK (q_rb b) Q) 31 [(2, 188), (0, w), (0, v2), (4, 0), (4, 0)] [] (q_sh0, q_rb b, mem) := by
  refine q_aload_n dX12_product_31 rfl rfl ?_
  refine qx_invV (ci := 12) [] [(2, 188)] rfl qM_X12_here dX12_product_32 tw1381 rfl qs188 rfl (Nat.ble_eq_true_of_le (by omega)) rfl rfl (l1) (fun r1 m1 p1 q1 => ?_)
  refine qx_bipush dX12_product_35 rfl rfl ?_
  refine qx_icmp_ne (tgt := 44) dX12_product_37 (by decide) (fun c2 => ?_) (fun c2 => ?_)
  · skip
    refine qx_iconst dX12_product_44 rfl rfl ?_
    refine qx_istore_n (L' := [(2, 188), (0, w), (0, v2), (0, 0), (4, 0)]) dX12_product_45 rfl rfl rfl rfl ?_
    exact l2 r1 m1 p1 q1 c2
  · skip
    refine qx_iconst dX12_product_40 rfl rfl ?_
    refine q_goto (tgt := 45) dX12_product_41 (by decide) ?_
    refine qx_istore_n (L' := [(2, 188), (0, w), (0, v2), (0, 1), (4, 0)]) dX12_product_45 rfl rfl rfl rfl ?_
    exact l3 r1 m1 p1 q1 c2
theorem bkX12_product_46 {b : Int} {mem : qm} {Q : Int → qm → Prop}
    {w v2 v3 : Int}
    {dd : Nat}
    (hd9 : 10 ≤ dd)
    {P1 : Int → qm → Prop}
    (l1 : q_Ev yX12_thing cX12_thing 4 (some .int) dd 0 0 [(2, 188), (0, w)] (q_sh0, q_rb b, (q_up mem 188 21 (q_w32 ((mem 188 21) + 1)))) (qK (q_rb b) (P1)))
    (o2 : ∀ (r1 : Int), ∀ (m1 : qm), P1 r1 m1 → q_in32 r1 → v3 = 0 → r1 ≠ 0 → r1 ≠ 0)
    (l3 : ∀ (r1 : Int), ∀ (m1 : qm), P1 r1 m1 → q_in32 r1 → v3 = 0 → r1 ≠ 0 → q_At yX12_product cX12_product 5 (some .int) (dd + 1) 0 0 (qK (q_rb b) Q) 6 [(2, 188), (0, w), (0, (q_oidiv v2 r1)), (4, 0), (4, 0)] [] (q_sh0, q_rb b, m1))
    (l4 : ∀ (r1 : Int), ∀ (m1 : qm), P1 r1 m1 → q_in32 r1 → v3 = 0 → r1 = 0 → q_At yX12_product cX12_product 5 (some .int) (dd + 1) 0 0 (qK (q_rb b) Q) 6 [(2, 188), (0, w), (0, 0), (4, 0), (4, 0)] [] (q_sh0, q_rb b, m1))
    (l5 : ∀ (r1 : Int), ∀ (m1 : qm), P1 r1 m1 → q_in32 r1 → v3 ≠ 0 → q_At yX12_product cX12_product 5 (some .int) (dd + 1) 0 0 (qK (q_rb b) Q) 6 [(2, 188), (0, w), (0, (q_w32 (v2 * r1))), (4, 0), (4, 0)] [] (q_sh0, q_rb b, m1)) :
    q_At yX12_product cX12_product 5 (some .int) (dd + 1) 0 0 (qK (q_rb b) Q) 46 [(2, 188), (0, w), (0, v2), (0, v3), (4, 0)] [] (q_sh0, q_rb b, mem) := by
  refine q_aload_n dX12_product_46 rfl rfl ?_
  refine q_dup dX12_product_47 (fun h => by cases h) ?_
  refine qx_getI (ci := 12) (k := 21) (v := (mem 188 21)) dX12_product_48 rfl rfl rfl tw1204 rfl qs188 rfl ?_
  refine qx_iconst dX12_product_51 rfl rfl ?_
  refine q_iadd dX12_product_52 ?_
  refine q_putI (ci := 12) (k := 21) (kI := 21) (ty := .int) dX12_product_53 rfl (by decide) rfl tw1204 rfl rfl rfl (fun _ => ⟨rfl, rfl⟩) qs188 ?_
  refine q_aload_n dX12_product_56 rfl rfl ?_
  refine q_iload_n dX12_product_57 rfl rfl ?_
  refine qx_invV (ci := 12) [(0, w)] [(0, w), (2, 188)] rfl qM_X12_thing dX12_product_58 tw1417 rfl qs188 rfl (Nat.ble_eq_true_of_le (by omega)) rfl rfl (l1) (fun r1 m1 p1 q1 => ?_)
  refine qx_istore (L' := [(2, 188), (0, w), (0, v2), (0, v3), (0, r1)]) dX12_product_61 rfl rfl rfl ?_
  refine q_iload_n dX12_product_63 rfl rfl ?_
  refine qx_if_eq (tgt := 74) dX12_product_64 (by decide) (fun c2 => ?_) (fun c2 => ?_)
  · skip
    refine q_iload dX12_product_74 rfl ?_
    refine qx_if_ne (tgt := 83) dX12_product_76 (by decide) (fun c3 => ?_) (fun c3 => ?_)
    · skip
      refine q_iload_n dX12_product_83 rfl rfl ?_
      refine q_iload dX12_product_84 rfl ?_
      refine q_idiv dX12_product_86 (o2 r1 m1 p1 q1 c2 c3) ?_
      refine qx_istore_n (L' := [(2, 188), (0, w), (0, (q_oidiv v2 r1)), (0, v3), (0, r1)]) dX12_product_87 rfl rfl rfl rfl ?_
      refine q_goto (tgt := 6) dX12_product_88 (by decide) ?_
      refine q_kill (L' := [(2, 188), (0, w), (0, (q_oidiv v2 r1)), (4, 0), (0, r1)]) 3 rfl ?_
      refine q_kill (L' := [(2, 188), (0, w), (0, (q_oidiv v2 r1)), (4, 0), (4, 0)]) 4 rfl ?_
      exact l3 r1 m1 p1 q1 c2 c3
    · skip
      refine qx_iconst dX12_product_79 rfl rfl ?_
      refine q_goto (tgt := 87) dX12_product_80 (by decide) ?_
      refine qx_istore_n (L' := [(2, 188), (0, w), (0, 0), (0, v3), (0, r1)]) dX12_product_87 rfl rfl rfl rfl ?_
      refine q_goto (tgt := 6) dX12_product_88 (by decide) ?_
      refine q_kill (L' := [(2, 188), (0, w), (0, 0), (4, 0), (0, r1)]) 3 rfl ?_
      refine q_kill (L' := [(2, 188), (0, w), (0, 0), (4, 0), (4, 0)]) 4 rfl ?_
      exact l4 r1 m1 p1 q1 c2 c3
  · skip
    refine q_iload_n dX12_product_67 rfl rfl ?_
    refine q_iload dX12_product_68 rfl ?_
    refine q_imul dX12_product_70 ?_
    refine q_goto (tgt := 87) dX12_product_71 (by decide) ?_
    refine qx_istore_n (L' := [(2, 188), (0, w), (0, (q_w32 (v2 * r1))), (0, v3), (0, r1)]) dX12_product_87 rfl rfl rfl rfl ?_
    refine q_goto (tgt := 6) dX12_product_88 (by decide) ?_
    refine q_kill (L' := [(2, 188), (0, w), (0, (q_w32 (v2 * r1))), (4, 0), (0, r1)]) 3 rfl ?_
    refine q_kill (L' := [(2, 188), (0, w), (0, (q_w32 (v2 * r1))), (4, 0), (4, 0)]) 4 rfl ?_
    exact l5 r1 m1 p1 q1 c2
theorem dX12_sum_0 : decode cX12_sum 0 = .ok (.aload_n 0, 1) := by decide +kernel
theorem dX12_sum_1 : decode cX12_sum 1 = .ok (.iload_n 1, 1) := by decide +kernel
theorem dX12_sum_2 : decode cX12_sum 2 = .ok (.invokevirtual 204, 3) := by decide +kernel
theorem dX12_sum_5 : decode cX12_sum 5 = .ok (.istore_n 2, 1) := by decide +kernel
theorem dX12_sum_6 : decode cX12_sum 6 = .ok (.aload_n 0, 1) := by decide +kernel
theorem dX12_sum_7 : decode cX12_sum 7 = .ok (.invokevirtual 163, 3) := by decide +kernel
theorem dX12_sum_10 : decode cX12_sum 10 = .ok (.ifCond .eq 72, 3) := by decide +kernel
theorem dX12_sum_13 : decode cX12_sum 13 = .ok (.aload_n 0, 1) := by decide +kernel
theorem dX12_sum_14 : decode cX12_sum 14 = .ok (.invokevirtual 167, 3) := by decide +kernel
theorem dX12_sum_17 : decode cX12_sum 17 = .ok (.bipush 43, 2) := by decide +kernel
theorem dX12_sum_19 : decode cX12_sum 19 = .ok (.if_icmp .eq 12, 3) := by decide +kernel
theorem dX12_sum_22 : decode cX12_sum 22 = .ok (.aload_n 0, 1) := by decide +kernel
theorem dX12_sum_23 : decode cX12_sum 23 = .ok (.invokevirtual 167, 3) := by decide +kernel
theorem dX12_sum_26 : decode cX12_sum 26 = .ok (.bipush 45, 2) := by decide +kernel
theorem dX12_sum_28 : decode cX12_sum 28 = .ok (.if_icmp .ne 54, 3) := by decide +kernel
theorem dX12_sum_31 : decode cX12_sum 31 = .ok (.aload_n 0, 1) := by decide +kernel
theorem dX12_sum_32 : decode cX12_sum 32 = .ok (.invokevirtual 167, 3) := by decide +kernel
theorem dX12_sum_35 : decode cX12_sum 35 = .ok (.bipush 43, 2) := by decide +kernel
theorem dX12_sum_37 : decode cX12_sum 37 = .ok (.if_icmp .ne 7, 3) := by decide +kernel
theorem dX12_sum_40 : decode cX12_sum 40 = .ok (.iconst 1, 1) := by decide +kernel
theorem dX12_sum_41 : decode cX12_sum 41 = .ok (.goto 4, 3) := by decide +kernel
theorem dX12_sum_44 : decode cX12_sum 44 = .ok (.iconst 0, 1) := by decide +kernel
theorem dX12_sum_45 : decode cX12_sum 45 = .ok (.istore_n 3, 1) := by decide +kernel
theorem dX12_sum_46 : decode cX12_sum 46 = .ok (.aload_n 0, 1) := by decide +kernel
theorem dX12_sum_47 : decode cX12_sum 47 = .ok (.dup, 1) := by decide +kernel
theorem dX12_sum_48 : decode cX12_sum 48 = .ok (.getfield 157, 3) := by decide +kernel
theorem dX12_sum_51 : decode cX12_sum 51 = .ok (.iconst 1, 1) := by decide +kernel
theorem dX12_sum_52 : decode cX12_sum 52 = .ok (.iadd, 1) := by decide +kernel
theorem dX12_sum_53 : decode cX12_sum 53 = .ok (.putfield 157, 3) := by decide +kernel
theorem dX12_sum_56 : decode cX12_sum 56 = .ok (.aload_n 0, 1) := by decide +kernel
theorem dX12_sum_57 : decode cX12_sum 57 = .ok (.iload_n 1, 1) := by decide +kernel
theorem dX12_sum_58 : decode cX12_sum 58 = .ok (.invokevirtual 204, 3) := by decide +kernel
theorem dX12_sum_61 : decode cX12_sum 61 = .ok (.istore 4, 2) := by decide +kernel
theorem dX12_sum_63 : decode cX12_sum 63 = .ok (.iload_n 3, 1) := by decide +kernel
theorem dX12_sum_64 : decode cX12_sum 64 = .ok (.ifCond .eq 10, 3) := by decide +kernel
theorem dX12_sum_67 : decode cX12_sum 67 = .ok (.iload_n 2, 1) := by decide +kernel
theorem dX12_sum_68 : decode cX12_sum 68 = .ok (.iload 4, 2) := by decide +kernel
theorem dX12_sum_70 : decode cX12_sum 70 = .ok (.iadd, 1) := by decide +kernel
theorem dX12_sum_71 : decode cX12_sum 71 = .ok (.goto 7, 3) := by decide +kernel
theorem dX12_sum_74 : decode cX12_sum 74 = .ok (.iload_n 2, 1) := by decide +kernel
theorem dX12_sum_75 : decode cX12_sum 75 = .ok (.iload 4, 2) := by decide +kernel
theorem dX12_sum_77 : decode cX12_sum 77 = .ok (.isub, 1) := by decide +kernel
theorem dX12_sum_78 : decode cX12_sum 78 = .ok (.istore_n 2, 1) := by decide +kernel
theorem dX12_sum_79 : decode cX12_sum 79 = .ok (.goto (-73), 3) := by decide +kernel
theorem dX12_sum_82 : decode cX12_sum 82 = .ok (.iload_n 2, 1) := by decide +kernel
theorem dX12_sum_83 : decode cX12_sum 83 = .ok (.ireturn, 1) := by decide +kernel
theorem bkX12_sum_0 {b : Int} {mem : qm} {Q : Int → qm → Prop}
    {w : Int}
    {dd : Nat}
    (hd9 : 10 ≤ dd)
    {P1 : Int → qm → Prop}
    (l1 : q_Ev yX12_product cX12_product 5 (some .int) dd 0 0 [(2, 188), (0, w)] (q_sh0, q_rb b, mem) (qK (q_rb b) (P1)))
    (l2 : ∀ (r1 : Int), ∀ (m1 : qm), P1 r1 m1 → q_in32 r1 → q_At yX12_sum cX12_sum 5 (some .int) (dd + 1) 0 0 (qK (q_rb b) Q) 6 [(2, 188), (0, w), (0, r1), (4, 0), (4, 0)] [] (q_sh0, q_rb b, m1)) :
    q_At yX12_sum cX12_sum 5 (some .int) (dd + 1) 0 0 (qK (q_rb b) Q) 0 [(2, 188), (0, w), (4, 0), (4, 0), (4, 0)] [] (q_sh0, q_rb b, mem) := by
  refine q_aload_n dX12_sum_0 rfl rfl ?_
  refine q_iload_n dX12_sum_1 rfl rfl ?_
  refine qx_invV (ci := 12) [(0, w)] [(0, w), (2, 188)] rfl qM_X12_product dX12_sum_2 tw1413 rfl qs188 rfl (Nat.ble_eq_true_of_le (by omega)) rfl rfl (l1) (fun r1 m1 p1 q1 => ?_)
  refine qx_istore_n (L' := [(2, 188), (0, w), (0, r1), (4, 0), (4, 0)]) dX12_sum_5 rfl rfl rfl rfl ?_
  exact l2 r1 m1 p1 q1
theorem bkX12_sum_6 {b : Int} {mem : qm} {Q : Int → qm → Prop}
    {w v2 : Int}
    {dd : Nat}
    (hd9 : 10 ≤ dd)
    {P2 : Int → qm → Prop}
    (l1 : ((mem 188 22) = -1) → q_Ev yX12_here cX12_here 1 (some .int) 1 0 0 [(2, 188)] (q_sh0, q_rb b, mem) (qK (q_rb b) (P2)))
    (l2 : ((mem 188 22) = -1) → ∀ (r2 : Int), ∀ (m2 : qm), P2 r2 m2 → q_in32 r2 → r2 = 43 → q_At yX12_sum cX12_sum 5 (some .int) (dd + 1) 0 0 (qK (q_rb b) Q) 31 [(2, 188), (0, w), (0, v2), (4, 0), (4, 0)] [] (q_sh0, q_rb b, m2))
    {P4 : Int → qm → Int → qm → Prop}
    (l3 : ((mem 188 22) = -1) → ∀ (r2 : Int), ∀ (m2 : qm), P2 r2 m2 → q_in32 r2 → r2 ≠ 43 → q_Ev yX12_here cX12_here 1 (some .int) 1 0 0 [(2, 188)] (q_sh0, q_rb b, m2) (qK (q_rb b) (P4 r2 m2)))
    (l4 : ((mem 188 22) = -1) → ∀ (r2 : Int), ∀ (m2 : qm), P2 r2 m2 → q_in32 r2 → r2 ≠ 43 → ∀ (r4 : Int), ∀ (m4 : qm), P4 r2 m2 r4 m4 → q_in32 r4 → r4 ≠ 45 → Q v2 m4)
    (l5 : ((mem 188 22) = -1) → ∀ (r2 : Int), ∀ (m2 : qm), P2 r2 m2 → q_in32 r2 → r2 ≠ 43 → ∀ (r4 : Int), ∀ (m4 : qm), P4 r2 m2 r4 m4 → q_in32 r4 → r4 = 45 → q_At yX12_sum cX12_sum 5 (some .int) (dd + 1) 0 0 (qK (q_rb b) Q) 31 [(2, 188), (0, w), (0, v2), (4, 0), (4, 0)] [] (q_sh0, q_rb b, m4))
    (l6 : ¬ ((mem 188 22) = -1) → Q v2 mem) :
    q_At yX12_sum cX12_sum 5 (some .int) (dd + 1) 0 0 (qK (q_rb b) Q) 6 [(2, 188), (0, w), (0, v2), (4, 0), (4, 0)] [] (q_sh0, q_rb b, mem) := by
  refine q_aload_n dX12_sum_6 rfl rfl ?_
  refine qx_invV (ci := 12) [] [(2, 188)] rfl qM_X12_fine dX12_sum_7 tw1373 rfl qs188 rfl (Nat.ble_eq_true_of_le (by omega)) rfl rfl (spX12_fine) (fun r1 m1 p1 q1 => ?_)
  obtain ⟨p1e, ⟨p1f, p1⟩ | ⟨p1f, p1⟩⟩ := p1
  · rw [p1e, p1f]
    refine qx_if_eq (tgt := 82) dX12_sum_10 (by decide) (fun z => absurd z (by decide)) (fun _ => ?_)
    refine q_aload_n dX12_sum_13 rfl rfl ?_
    refine qx_invV (ci := 12) [] [(2, 188)] rfl qM_X12_here dX12_sum_14 tw1381 rfl qs188 rfl (Nat.ble_eq_true_of_le (by omega)) rfl rfl (l1 p1) (fun r2 m2 p2 q2 => ?_)
    refine qx_bipush dX12_sum_17 rfl rfl ?_
    refine qx_icmp_eq (tgt := 31) dX12_sum_19 (by decide) (fun c3 => ?_) (fun c3 => ?_)
    · skip
      exact l2 p1 r2 m2 p2 q2 c3
    · skip
      refine q_aload_n dX12_sum_22 rfl rfl ?_
      refine qx_invV (ci := 12) [] [(2, 188)] rfl qM_X12_here dX12_sum_23 tw1381 rfl qs188 rfl (Nat.ble_eq_true_of_le (by omega)) rfl rfl (l3 p1 r2 m2 p2 q2 c3) (fun r4 m4 p4 q4 => ?_)
      refine qx_bipush dX12_sum_26 rfl rfl ?_
      refine qx_icmp_ne (tgt := 82) dX12_sum_28 (by decide) (fun c5 => ?_) (fun c5 => ?_)
      · skip
        refine q_iload_n dX12_sum_82 rfl rfl ?_
        exact q_iret dX12_sum_83 (qK_i (l4 p1 r2 m2 p2 q2 c3 r4 m4 p4 q4 c5))
      · skip
        exact l5 p1 r2 m2 p2 q2 c3 r4 m4 p4 q4 c5
  · rw [p1e, p1f]
    refine qx_if_eq (tgt := 82) dX12_sum_10 (by decide) (fun _ => ?_) (fun z => absurd z (by decide))
    refine q_iload_n dX12_sum_82 rfl rfl ?_
    exact q_iret dX12_sum_83 (qK_i (l6 p1))
theorem bkX12_sum_31 {b : Int} {mem : qm} {Q : Int → qm → Prop}
    {w v2 : Int}
    {dd : Nat}
    (hd9 : 10 ≤ dd)
    {P1 : Int → qm → Prop}
    (l1 : q_Ev yX12_here cX12_here 1 (some .int) 1 0 0 [(2, 188)] (q_sh0, q_rb b, mem) (qK (q_rb b) (P1)))
    (l2 : ∀ (r1 : Int), ∀ (m1 : qm), P1 r1 m1 → q_in32 r1 → r1 ≠ 43 → q_At yX12_sum cX12_sum 5 (some .int) (dd + 1) 0 0 (qK (q_rb b) Q) 46 [(2, 188), (0, w), (0, v2), (0, 0), (4, 0)] [] (q_sh0, q_rb b, m1))
    (l3 : ∀ (r1 : Int), ∀ (m1 : qm), P1 r1 m1 → q_in32 r1 → r1 = 43 → q_At yX12_sum cX12_sum 5 (some .int) (dd + 1) 0 0 (qK (q_rb b) Q) 46 [(2, 188), (0, w), (0, v2), (0, 1), (4, 0)] [] (q_sh0, q_rb b, m1)) :
    q_At yX12_sum cX12_sum 5 (some .int) (dd + 1) 0 0 (qK (q_rb b) Q) 31 [(2, 188), (0, w), (0, v2), (4, 0), (4, 0)] [] (q_sh0, q_rb b, mem) := by
  refine q_aload_n dX12_sum_31 rfl rfl ?_
  refine qx_invV (ci := 12) [] [(2, 188)] rfl qM_X12_here dX12_sum_32 tw1381 rfl qs188 rfl (Nat.ble_eq_true_of_le (by omega)) rfl rfl (l1) (fun r1 m1 p1 q1 => ?_)
  refine qx_bipush dX12_sum_35 rfl rfl ?_
  refine qx_icmp_ne (tgt := 44) dX12_sum_37 (by decide) (fun c2 => ?_) (fun c2 => ?_)
  · skip
    refine qx_iconst dX12_sum_44 rfl rfl ?_
    refine qx_istore_n (L' := [(2, 188), (0, w), (0, v2), (0, 0), (4, 0)]) dX12_sum_45 rfl rfl rfl rfl ?_
    exact l2 r1 m1 p1 q1 c2
  · skip
    refine qx_iconst dX12_sum_40 rfl rfl ?_
    refine q_goto (tgt := 45) dX12_sum_41 (by decide) ?_
    refine qx_istore_n (L' := [(2, 188), (0, w), (0, v2), (0, 1), (4, 0)]) dX12_sum_45 rfl rfl rfl rfl ?_
    exact l3 r1 m1 p1 q1 c2
theorem bkX12_sum_46 {b : Int} {mem : qm} {Q : Int → qm → Prop}
    {w v2 v3 : Int}
    {dd : Nat}
    (hd9 : 10 ≤ dd)
    {P1 : Int → qm → Prop}
    (l1 : q_Ev yX12_product cX12_product 5 (some .int) dd 0 0 [(2, 188), (0, w)] (q_sh0, q_rb b, (q_up mem 188 21 (q_w32 ((mem 188 21) + 1)))) (qK (q_rb b) (P1)))
    (l2 : ∀ (r1 : Int), ∀ (m1 : qm), P1 r1 m1 → q_in32 r1 → v3 = 0 → q_At yX12_sum cX12_sum 5 (some .int) (dd + 1) 0 0 (qK (q_rb b) Q) 6 [(2, 188), (0, w), (0, (q_w32 (v2 - r1))), (4, 0), (4, 0)] [] (q_sh0, q_rb b, m1))
    (l3 : ∀ (r1 : Int), ∀ (m1 : qm), P1 r1 m1 → q_in32 r1 → v3 ≠ 0 → q_At yX12_sum cX12_sum 5 (some .int) (dd + 1) 0 0 (qK (q_rb b) Q) 6 [(2, 188), (0, w), (0, (q_w32 (v2 + r1))), (4, 0), (4, 0)] [] (q_sh0, q_rb b, m1)) :
    q_At yX12_sum cX12_sum 5 (some .int) (dd + 1) 0 0 (qK (q_rb b) Q) 46 [(2, 188), (0, w), (0, v2), (0, v3), (4, 0)] [] (q_sh0, q_rb b, mem) := by
  refine q_aload_n dX12_sum_46 rfl rfl ?_
  refine q_dup dX12_sum_47 (fun h => by cases h) ?_
  refine qx_getI (ci := 12) (k := 21) (v := (mem 188 21)) dX12_sum_48 rfl rfl rfl tw1204 rfl qs188 rfl ?_
  refine qx_iconst dX12_sum_51 rfl rfl ?_
  refine q_iadd dX12_sum_52 ?_
  refine q_putI (ci := 12) (k := 21) (kI := 21) (ty := .int) dX12_sum_53 rfl (by decide) rfl tw1204 rfl rfl rfl (fun _ => ⟨rfl, rfl⟩) qs188 ?_
  refine q_aload_n dX12_sum_56 rfl rfl ?_
  refine q_iload_n dX12_sum_57 rfl rfl ?_
  refine qx_invV (ci := 12) [(0, w)] [(0, w), (2, 188)] rfl qM_X12_product dX12_sum_58 tw1413 rfl qs188 rfl (Nat.ble_eq_true_of_le (by omega)) rfl rfl (l1) (fun r1 m1 p1 q1 => ?_)
  refine qx_istore (L' := [(2, 188), (0, w), (0, v2), (0, v3), (0, r1)]) dX12_sum_61 rfl rfl rfl ?_
  refine q_iload_n dX12_sum_63 rfl rfl ?_
  refine qx_if_eq (tgt := 74) dX12_sum_64 (by decide) (fun c2 => ?_) (fun c2 => ?_)
  · skip
    refine q_iload_n dX12_sum_74 rfl rfl ?_
    refine q_iload dX12_sum_75 rfl ?_
    refine q_isub dX12_sum_77 ?_
    refine qx_istore_n (L' := [(2, 188), (0, w), (0, (q_w32 (v2 - r1))), (0, v3), (0, r1)]) dX12_sum_78 rfl rfl rfl rfl ?_
    refine q_goto (tgt := 6) dX12_sum_79 (by decide) ?_
    refine q_kill (L' := [(2, 188), (0, w), (0, (q_w32 (v2 - r1))), (4, 0), (0, r1)]) 3 rfl ?_
    refine q_kill (L' := [(2, 188), (0, w), (0, (q_w32 (v2 - r1))), (4, 0), (4, 0)]) 4 rfl ?_
    exact l2 r1 m1 p1 q1 c2
  · skip
    refine q_iload_n dX12_sum_67 rfl rfl ?_
    refine q_iload dX12_sum_68 rfl ?_
    refine q_iadd dX12_sum_70 ?_
    refine q_goto (tgt := 78) dX12_sum_71 (by decide) ?_
    refine qx_istore_n (L' := [(2, 188), (0, w), (0, (q_w32 (v2 + r1))), (0, v3), (0, r1)]) dX12_sum_78 rfl rfl rfl rfl ?_
    refine q_goto (tgt := 6) dX12_sum_79 (by decide) ?_
    refine q_kill (L' := [(2, 188), (0, w), (0, (q_w32 (v2 + r1))), (4, 0), (0, r1)]) 3 rfl ?_
    refine q_kill (L' := [(2, 188), (0, w), (0, (q_w32 (v2 + r1))), (4, 0), (4, 0)]) 4 rfl ?_
    exact l3 r1 m1 p1 q1 c2
theorem dX12_held_0 : decode cX12_held 0 = .ok (.aload_n 0, 1) := by decide +kernel
theorem dX12_held_1 : decode cX12_held 1 = .ok (.iload_n 1, 1) := by decide +kernel
theorem dX12_held_2 : decode cX12_held 2 = .ok (.invokevirtual 200, 3) := by decide +kernel
theorem dX12_held_5 : decode cX12_held 5 = .ok (.istore_n 2, 1) := by decide +kernel
theorem dX12_held_6 : decode cX12_held 6 = .ok (.aload_n 0, 1) := by decide +kernel
theorem dX12_held_7 : decode cX12_held 7 = .ok (.bipush 60, 2) := by decide +kernel
theorem dX12_held_9 : decode cX12_held 9 = .ok (.invokevirtual 171, 3) := by decide +kernel
theorem dX12_held_12 : decode cX12_held 12 = .ok (.ifCond .eq 18, 3) := by decide +kernel
theorem dX12_held_15 : decode cX12_held 15 = .ok (.iload_n 2, 1) := by decide +kernel
theorem dX12_held_16 : decode cX12_held 16 = .ok (.aload_n 0, 1) := by decide +kernel
theorem dX12_held_17 : decode cX12_held 17 = .ok (.iload_n 1, 1) := by decide +kernel
theorem dX12_held_18 : decode cX12_held 18 = .ok (.invokevirtual 200, 3) := by decide +kernel
theorem dX12_held_21 : decode cX12_held 21 = .ok (.if_icmp .ge 7, 3) := by decide +kernel
theorem dX12_held_24 : decode cX12_held 24 = .ok (.iconst 1, 1) := by decide +kernel
theorem dX12_held_25 : decode cX12_held 25 = .ok (.goto 4, 3) := by decide +kernel
theorem dX12_held_28 : decode cX12_held 28 = .ok (.iconst 0, 1) := by decide +kernel
theorem dX12_held_29 : decode cX12_held 29 = .ok (.ireturn, 1) := by decide +kernel
theorem dX12_held_30 : decode cX12_held 30 = .ok (.aload_n 0, 1) := by decide +kernel
theorem dX12_held_31 : decode cX12_held 31 = .ok (.bipush 62, 2) := by decide +kernel
theorem dX12_held_33 : decode cX12_held 33 = .ok (.invokevirtual 171, 3) := by decide +kernel
theorem dX12_held_36 : decode cX12_held 36 = .ok (.ifCond .eq 18, 3) := by decide +kernel
theorem dX12_held_39 : decode cX12_held 39 = .ok (.iload_n 2, 1) := by decide +kernel
theorem dX12_held_40 : decode cX12_held 40 = .ok (.aload_n 0, 1) := by decide +kernel
theorem dX12_held_41 : decode cX12_held 41 = .ok (.iload_n 1, 1) := by decide +kernel
theorem dX12_held_42 : decode cX12_held 42 = .ok (.invokevirtual 200, 3) := by decide +kernel
theorem dX12_held_45 : decode cX12_held 45 = .ok (.if_icmp .le 7, 3) := by decide +kernel
theorem dX12_held_48 : decode cX12_held 48 = .ok (.iconst 1, 1) := by decide +kernel
theorem dX12_held_49 : decode cX12_held 49 = .ok (.goto 4, 3) := by decide +kernel
theorem dX12_held_52 : decode cX12_held 52 = .ok (.iconst 0, 1) := by decide +kernel
theorem dX12_held_53 : decode cX12_held 53 = .ok (.ireturn, 1) := by decide +kernel
theorem dX12_held_54 : decode cX12_held 54 = .ok (.aload_n 0, 1) := by decide +kernel
theorem dX12_held_55 : decode cX12_held 55 = .ok (.bipush 61, 2) := by decide +kernel
theorem dX12_held_57 : decode cX12_held 57 = .ok (.invokevirtual 171, 3) := by decide +kernel
theorem dX12_held_60 : decode cX12_held 60 = .ok (.ifCond .eq 18, 3) := by decide +kernel
theorem dX12_held_63 : decode cX12_held 63 = .ok (.iload_n 2, 1) := by decide +kernel
theorem dX12_held_64 : decode cX12_held 64 = .ok (.aload_n 0, 1) := by decide +kernel
theorem dX12_held_65 : decode cX12_held 65 = .ok (.iload_n 1, 1) := by decide +kernel
theorem dX12_held_66 : decode cX12_held 66 = .ok (.invokevirtual 200, 3) := by decide +kernel
theorem dX12_held_69 : decode cX12_held 69 = .ok (.if_icmp .ne 7, 3) := by decide +kernel
theorem dX12_held_72 : decode cX12_held 72 = .ok (.iconst 1, 1) := by decide +kernel
theorem dX12_held_73 : decode cX12_held 73 = .ok (.goto 4, 3) := by decide +kernel
theorem dX12_held_76 : decode cX12_held 76 = .ok (.iconst 0, 1) := by decide +kernel
theorem dX12_held_77 : decode cX12_held 77 = .ok (.ireturn, 1) := by decide +kernel
theorem dX12_held_78 : decode cX12_held 78 = .ok (.iload_n 2, 1) := by decide +kernel
theorem dX12_held_79 : decode cX12_held 79 = .ok (.ireturn, 1) := by decide +kernel
theorem bkX12_held_0 {b : Int} {mem : qm} {Q : Int → qm → Prop}
    {w : Int}
    {dd : Nat}
    (hd9 : 10 ≤ dd)
    {P1 : Int → qm → Prop}
    (l1 : q_Ev yX12_sum cX12_sum 5 (some .int) dd 0 0 [(2, 188), (0, w)] (q_sh0, q_rb b, mem) (qK (q_rb b) (P1)))
    {P2 : Int → qm → Int → qm → Prop}
    (l2 : ∀ (r1 : Int), ∀ (m1 : qm), P1 r1 m1 → q_in32 r1 → q_Ev yX12_passes cX12_passes 2 (some .boolean) 2 0 0 [(2, 188), (0, 60)] (q_sh0, q_rb b, m1) (qK (q_rb b) (P2 r1 m1)))
    {P4 : Int → qm → Int → qm → Int → qm → Prop}
    (l3 : ∀ (r1 : Int), ∀ (m1 : qm), P1 r1 m1 → q_in32 r1 → ∀ (r2 : Int), ∀ (m2 : qm), P2 r1 m1 r2 m2 → q_in32 r2 → r2 = 0 → q_Ev yX12_passes cX12_passes 2 (some .boolean) 2 0 0 [(2, 188), (0, 62)] (q_sh0, q_rb b, m2) (qK (q_rb b) (P4 r1 m1 r2 m2)))
    {P6 : Int → qm → Int → qm → Int → qm → Int → qm → Prop}
    (l4 : ∀ (r1 : Int), ∀ (m1 : qm), P1 r1 m1 → q_in32 r1 → ∀ (r2 : Int), ∀ (m2 : qm), P2 r1 m1 r2 m2 → q_in32 r2 → r2 = 0 → ∀ (r4 : Int), ∀ (m4 : qm), P4 r1 m1 r2 m2 r4 m4 → q_in32 r4 → r4 = 0 → q_Ev yX12_passes cX12_passes 2 (some .boolean) 2 0 0 [(2, 188), (0, 61)] (q_sh0, q_rb b, m4) (qK (q_rb b) (P6 r1 m1 r2 m2 r4 m4)))
    (l5 : ∀ (r1 : Int), ∀ (m1 : qm), P1 r1 m1 → q_in32 r1 → ∀ (r2 : Int), ∀ (m2 : qm), P2 r1 m1 r2 m2 → q_in32 r2 → r2 = 0 → ∀ (r4 : Int), ∀ (m4 : qm), P4 r1 m1 r2 m2 r4 m4 → q_in32 r4 → r4 = 0 → ∀ (r6 : Int), ∀ (m6 : qm), P6 r1 m1 r2 m2 r4 m4 r6 m6 → q_in32 r6 → r6 = 0 → Q r1 m6)
    {P8 : Int → qm → Int → qm → Int → qm → Int → qm → Int → qm → Prop}
    (l6 : ∀ (r1 : Int), ∀ (m1 : qm), P1 r1 m1 → q_in32 r1 → ∀ (r2 : Int), ∀ (m2 : qm), P2 r1 m1 r2 m2 → q_in32 r2 → r2 = 0 → ∀ (r4 : Int), ∀ (m4 : qm), P4 r1 m1 r2 m2 r4 m4 → q_in32 r4 → r4 = 0 → ∀ (r6 : Int), ∀ (m6 : qm), P6 r1 m1 r2 m2 r4 m4 r6 m6 → q_in32 r6 → r6 ≠ 0 → q_Ev yX12_sum cX12_sum 5 (some .int) dd 0 0 [(2, 188), (0, w)] (q_sh0, q_rb b, m6) (qK (q_rb b) (P8 r1 m1 r2 m2 r4 m4 r6 m6)))
    (l7 : ∀ (r1 : Int), ∀ (m1 : qm), P1 r1 m1 → q_in32 r1 → ∀ (r2 : Int), ∀ (m2 : qm), P2 r1 m1 r2 m2 → q_in32 r2 → r2 = 0 → ∀ (r4 : Int), ∀ (m4 : qm), P4 r1 m1 r2 m2 r4 m4 → q_in32 r4 → r4 = 0 → ∀ (r6 : Int), ∀ (m6 : qm), P6 r1 m1 r2 m2 r4 m4 r6 m6 → q_in32 r6 → r6 ≠ 0 → ∀ (r8 : Int), ∀ (m8 : qm), P8 r1 m1 r2 m2 r4 m4 r6 m6 r8 m8 → q_in32 r8 → r1 ≠ r8 → Q 0 m8)
    (l8 : ∀ (r1 : Int), ∀ (m1 : qm), P1 r1 m1 → q_in32 r1 → ∀ (r2 : Int), ∀ (m2 : qm), P2 r1 m1 r2 m2 → q_in32 r2 → r2 = 0 → ∀ (r4 : Int), ∀ (m4 : qm), P4 r1 m1 r2 m2 r4 m4 → q_in32 r4 → r4 = 0 → ∀ (r6 : Int), ∀ (m6 : qm), P6 r1 m1 r2 m2 r4 m4 r6 m6 → q_in32 r6 → r6 ≠ 0 → ∀ (r8 : Int), ∀ (m8 : qm), P8 r1 m1 r2 m2 r4 m4 r6 m6 r8 m8 → q_in32 r8 → r1 = r8 → Q 1 m8)
    {P10 : Int → qm → Int → qm → Int → qm → Int → qm → Prop}
    (l9 : ∀ (r1 : Int), ∀ (m1 : qm), P1 r1 m1 → q_in32 r1 → ∀ (r2 : Int), ∀ (m2 : qm), P2 r1 m1 r2 m2 → q_in32 r2 → r2 = 0 → ∀ (r4 : Int), ∀ (m4 : qm), P4 r1 m1 r2 m2 r4 m4 → q_in32 r4 → r4 ≠ 0 → q_Ev yX12_sum cX12_sum 5 (some .int) dd 0 0 [(2, 188), (0, w)] (q_sh0, q_rb b, m4) (qK (q_rb b) (P10 r1 m1 r2 m2 r4 m4)))
    (l10 : ∀ (r1 : Int), ∀ (m1 : qm), P1 r1 m1 → q_in32 r1 → ∀ (r2 : Int), ∀ (m2 : qm), P2 r1 m1 r2 m2 → q_in32 r2 → r2 = 0 → ∀ (r4 : Int), ∀ (m4 : qm), P4 r1 m1 r2 m2 r4 m4 → q_in32 r4 → r4 ≠ 0 → ∀ (r10 : Int), ∀ (m10 : qm), P10 r1 m1 r2 m2 r4 m4 r10 m10 → q_in32 r10 → r1 ≤ r10 → Q 0 m10)
    (l11 : ∀ (r1 : Int), ∀ (m1 : qm), P1 r1 m1 → q_in32 r1 → ∀ (r2 : Int), ∀ (m2 : qm), P2 r1 m1 r2 m2 → q_in32 r2 → r2 = 0 → ∀ (r4 : Int), ∀ (m4 : qm), P4 r1 m1 r2 m2 r4 m4 → q_in32 r4 → r4 ≠ 0 → ∀ (r10 : Int), ∀ (m10 : qm), P10 r1 m1 r2 m2 r4 m4 r10 m10 → q_in32 r10 → r10 < r1 → Q 1 m10)
    {P12 : Int → qm → Int → qm → Int → qm → Prop}
    (l12 : ∀ (r1 : Int), ∀ (m1 : qm), P1 r1 m1 → q_in32 r1 → ∀ (r2 : Int), ∀ (m2 : qm), P2 r1 m1 r2 m2 → q_in32 r2 → r2 ≠ 0 → q_Ev yX12_sum cX12_sum 5 (some .int) dd 0 0 [(2, 188), (0, w)] (q_sh0, q_rb b, m2) (qK (q_rb b) (P12 r1 m1 r2 m2)))
    (l13 : ∀ (r1 : Int), ∀ (m1 : qm), P1 r1 m1 → q_in32 r1 → ∀ (r2 : Int), ∀ (m2 : qm), P2 r1 m1 r2 m2 → q_in32 r2 → r2 ≠ 0 → ∀ (r12 : Int), ∀ (m12 : qm), P12 r1 m1 r2 m2 r12 m12 → q_in32 r12 → r12 ≤ r1 → Q 0 m12)
    (l14 : ∀ (r1 : Int), ∀ (m1 : qm), P1 r1 m1 → q_in32 r1 → ∀ (r2 : Int), ∀ (m2 : qm), P2 r1 m1 r2 m2 → q_in32 r2 → r2 ≠ 0 → ∀ (r12 : Int), ∀ (m12 : qm), P12 r1 m1 r2 m2 r12 m12 → q_in32 r12 → r1 < r12 → Q 1 m12) :
    q_At yX12_held cX12_held 3 (some .int) (dd + 1) 0 0 (qK (q_rb b) Q) 0 [(2, 188), (0, w), (4, 0)] [] (q_sh0, q_rb b, mem) := by
  refine q_aload_n dX12_held_0 rfl rfl ?_
  refine q_iload_n dX12_held_1 rfl rfl ?_
  refine qx_invV (ci := 12) [(0, w)] [(0, w), (2, 188)] rfl qM_X12_sum dX12_held_2 tw1409 rfl qs188 rfl (Nat.ble_eq_true_of_le (by omega)) rfl rfl (l1) (fun r1 m1 p1 q1 => ?_)
  refine qx_istore_n (L' := [(2, 188), (0, w), (0, r1)]) dX12_held_5 rfl rfl rfl rfl ?_
  refine q_aload_n dX12_held_6 rfl rfl ?_
  refine qx_bipush dX12_held_7 rfl rfl ?_
  refine qx_invV (ci := 12) [(0, 60)] [(0, 60), (2, 188)] rfl qM_X12_passes dX12_held_9 tw1377 rfl qs188 rfl (Nat.ble_eq_true_of_le (by omega)) rfl rfl (l2 r1 m1 p1 q1) (fun r2 m2 p2 q2 => ?_)
  refine qx_if_eq (tgt := 30) dX12_held_12 (by decide) (fun c3 => ?_) (fun c3 => ?_)
  · skip
    refine q_aload_n dX12_held_30 rfl rfl ?_
    refine qx_bipush dX12_held_31 rfl rfl ?_
    refine qx_invV (ci := 12) [(0, 62)] [(0, 62), (2, 188)] rfl qM_X12_passes dX12_held_33 tw1377 rfl qs188 rfl (Nat.ble_eq_true_of_le (by omega)) rfl rfl (l3 r1 m1 p1 q1 r2 m2 p2 q2 c3) (fun r4 m4 p4 q4 => ?_)
    refine qx_if_eq (tgt := 54) dX12_held_36 (by decide) (fun c5 => ?_) (fun c5 => ?_)
    · skip
      refine q_aload_n dX12_held_54 rfl rfl ?_
      refine qx_bipush dX12_held_55 rfl rfl ?_
      refine qx_invV (ci := 12) [(0, 61)] [(0, 61), (2, 188)] rfl qM_X12_passes dX12_held_57 tw1377 rfl qs188 rfl (Nat.ble_eq_true_of_le (by omega)) rfl rfl (l4 r1 m1 p1 q1 r2 m2 p2 q2 c3 r4 m4 p4 q4 c5) (fun r6 m6 p6 q6 => ?_)
      refine qx_if_eq (tgt := 78) dX12_held_60 (by decide) (fun c7 => ?_) (fun c7 => ?_)
      · skip
        refine q_iload_n dX12_held_78 rfl rfl ?_
        exact q_iret dX12_held_79 (qK_i (l5 r1 m1 p1 q1 r2 m2 p2 q2 c3 r4 m4 p4 q4 c5 r6 m6 p6 q6 c7))
      · skip
        refine q_iload_n dX12_held_63 rfl rfl ?_
        refine q_aload_n dX12_held_64 rfl rfl ?_
        refine q_iload_n dX12_held_65 rfl rfl ?_
        refine qx_invV (ci := 12) [(0, w)] [(0, w), (2, 188), (0, r1)] rfl qM_X12_sum dX12_held_66 tw1409 rfl qs188 rfl (Nat.ble_eq_true_of_le (by omega)) rfl rfl (l6 r1 m1 p1 q1 r2 m2 p2 q2 c3 r4 m4 p4 q4 c5 r6 m6 p6 q6 c7) (fun r8 m8 p8 q8 => ?_)
        refine qx_icmp_ne (tgt := 76) dX12_held_69 (by decide) (fun c9 => ?_) (fun c9 => ?_)
        · skip
          refine qx_iconst dX12_held_76 rfl rfl ?_
          exact q_iret dX12_held_77 (qK_i (l7 r1 m1 p1 q1 r2 m2 p2 q2 c3 r4 m4 p4 q4 c5 r6 m6 p6 q6 c7 r8 m8 p8 q8 c9))
        · skip
          refine qx_iconst dX12_held_72 rfl rfl ?_
          refine q_goto (tgt := 77) dX12_held_73 (by decide) ?_
          exact q_iret dX12_held_77 (qK_i (l8 r1 m1 p1 q1 r2 m2 p2 q2 c3 r4 m4 p4 q4 c5 r6 m6 p6 q6 c7 r8 m8 p8 q8 c9))
    · skip
      refine q_iload_n dX12_held_39 rfl rfl ?_
      refine q_aload_n dX12_held_40 rfl rfl ?_
      refine q_iload_n dX12_held_41 rfl rfl ?_
      refine qx_invV (ci := 12) [(0, w)] [(0, w), (2, 188), (0, r1)] rfl qM_X12_sum dX12_held_42 tw1409 rfl qs188 rfl (Nat.ble_eq_true_of_le (by omega)) rfl rfl (l9 r1 m1 p1 q1 r2 m2 p2 q2 c3 r4 m4 p4 q4 c5) (fun r10 m10 p10 q10 => ?_)
      refine qx_icmp_le (tgt := 52) dX12_held_45 (by decide) (fun c11 => ?_) (fun c11 => ?_)
      · skip
        refine qx_iconst dX12_held_52 rfl rfl ?_
        exact q_iret dX12_held_53 (qK_i (l10 r1 m1 p1 q1 r2 m2 p2 q2 c3 r4 m4 p4 q4 c5 r10 m10 p10 q10 c11))
      · skip
        refine qx_iconst dX12_held_48 rfl rfl ?_
        refine q_goto (tgt := 53) dX12_held_49 (by decide) ?_
        exact q_iret dX12_held_53 (qK_i (l11 r1 m1 p1 q1 r2 m2 p2 q2 c3 r4 m4 p4 q4 c5 r10 m10 p10 q10 c11))
  · skip
    refine q_iload_n dX12_held_15 rfl rfl ?_
    refine q_aload_n dX12_held_16 rfl rfl ?_
    refine q_iload_n dX12_held_17 rfl rfl ?_
    refine qx_invV (ci := 12) [(0, w)] [(0, w), (2, 188), (0, r1)] rfl qM_X12_sum dX12_held_18 tw1409 rfl qs188 rfl (Nat.ble_eq_true_of_le (by omega)) rfl rfl (l12 r1 m1 p1 q1 r2 m2 p2 q2 c3) (fun r12 m12 p12 q12 => ?_)
    refine qx_icmp_ge (tgt := 28) dX12_held_21 (by decide) (fun c13 => ?_) (fun c13 => ?_)
    · skip
      refine qx_iconst dX12_held_28 rfl rfl ?_
      exact q_iret dX12_held_29 (qK_i (l13 r1 m1 p1 q1 r2 m2 p2 q2 c3 r12 m12 p12 q12 c13))
    · skip
      refine qx_iconst dX12_held_24 rfl rfl ?_
      refine q_goto (tgt := 29) dX12_held_25 (by decide) ?_
      exact q_iret dX12_held_29 (qK_i (l14 r1 m1 p1 q1 r2 m2 p2 q2 c3 r12 m12 p12 q12 c13))
