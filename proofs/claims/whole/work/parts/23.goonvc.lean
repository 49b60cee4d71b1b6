theorem dX12_begin__0 : decode cX12_begin_ 0 = .ok (.iconst 0, 1) := by decide +kernel
theorem dX12_begin__1 : decode cX12_begin_ 1 = .ok (.istore_n 1, 1) := by decide +kernel
theorem dX12_begin__2 : decode cX12_begin_ 2 = .ok (.iload_n 1, 1) := by decide +kernel
theorem dX12_begin__3 : decode cX12_begin_ 3 = .ok (.aload_n 0, 1) := by decide +kernel
theorem dX12_begin__4 : decode cX12_begin_ 4 = .ok (.getfield 134, 3) := by decide +kernel
theorem dX12_begin__7 : decode cX12_begin_ 7 = .ok (.if_icmp .ge 45, 3) := by decide +kernel
theorem dX12_begin__10 : decode cX12_begin_ 10 = .ok (.aload_n 0, 1) := by decide +kernel
theorem dX12_begin__11 : decode cX12_begin_ 11 = .ok (.getfield 72, 3) := by decide +kernel
theorem dX12_begin__14 : decode cX12_begin_ 14 = .ok (.iload_n 1, 1) := by decide +kernel
theorem dX12_begin__15 : decode cX12_begin_ 15 = .ok (.aload_n 0, 1) := by decide +kernel
theorem dX12_begin__16 : decode cX12_begin_ 16 = .ok (.getfield 13, 3) := by decide +kernel
theorem dX12_begin__19 : decode cX12_begin_ 19 = .ok (.iload_n 1, 1) := by decide +kernel
theorem dX12_begin__20 : decode cX12_begin_ 20 = .ok (.iaload, 1) := by decide +kernel
theorem dX12_begin__21 : decode cX12_begin_ 21 = .ok (.iastore, 1) := by decide +kernel
theorem dX12_begin__22 : decode cX12_begin_ 22 = .ok (.aload_n 0, 1) := by decide +kernel
theorem dX12_begin__23 : decode cX12_begin_ 23 = .ok (.getfield 75, 3) := by decide +kernel
theorem dX12_begin__26 : decode cX12_begin_ 26 = .ok (.iload_n 1, 1) := by decide +kernel
theorem dX12_begin__27 : decode cX12_begin_ 27 = .ok (.aload_n 0, 1) := by decide +kernel
theorem dX12_begin__28 : decode cX12_begin_ 28 = .ok (.getfield 28, 3) := by decide +kernel
theorem dX12_begin__31 : decode cX12_begin_ 31 = .ok (.iload_n 1, 1) := by decide +kernel
theorem dX12_begin__32 : decode cX12_begin_ 32 = .ok (.iaload, 1) := by decide +kernel
theorem dX12_begin__33 : decode cX12_begin_ 33 = .ok (.iastore, 1) := by decide +kernel
theorem dX12_begin__34 : decode cX12_begin_ 34 = .ok (.aload_n 0, 1) := by decide +kernel
theorem dX12_begin__35 : decode cX12_begin_ 35 = .ok (.getfield 78, 3) := by decide +kernel
theorem dX12_begin__38 : decode cX12_begin_ 38 = .ok (.iload_n 1, 1) := by decide +kernel
theorem dX12_begin__39 : decode cX12_begin_ 39 = .ok (.aload_n 0, 1) := by decide +kernel
theorem dX12_begin__40 : decode cX12_begin_ 40 = .ok (.getfield 16, 3) := by decide +kernel
theorem dX12_begin__43 : decode cX12_begin_ 43 = .ok (.iload_n 1, 1) := by decide +kernel
theorem dX12_begin__44 : decode cX12_begin_ 44 = .ok (.iaload, 1) := by decide +kernel
theorem dX12_begin__45 : decode cX12_begin_ 45 = .ok (.iastore, 1) := by decide +kernel
theorem dX12_begin__46 : decode cX12_begin_ 46 = .ok (.iinc 1 1, 3) := by decide +kernel
theorem dX12_begin__49 : decode cX12_begin_ 49 = .ok (.goto (-47), 3) := by decide +kernel
theorem dX12_begin__52 : decode cX12_begin_ 52 = .ok (.return_, 1) := by decide +kernel
theorem bkX12_begin__0 {b : Int} {mem : qm} {Q : Int → qm → Prop}
    (l1 : q_At yX12_begin_ cX12_begin_ 2 none 1 0 0 (qK (q_rb b) Q) 2 [(2, 188), (0, 0)] [] (q_sh0, q_rb b, mem)) :
    q_At yX12_begin_ cX12_begin_ 2 none 1 0 0 (qK (q_rb b) Q) 0 [(2, 188), (4, 0)] [] (q_sh0, q_rb b, mem) := by
  refine qx_iconst dX12_begin__0 rfl rfl ?_
  refine qx_istore_n (L' := [(2, 188), (0, 0)]) dX12_begin__1 rfl rfl rfl rfl ?_
  exact l1
theorem bkX12_begin__2 {b : Int} {mem : qm} {Q : Int → qm → Prop}
    {v1 : Int}
    (l1 : (mem 188 0) ≤ v1 → Q 0 mem)
    (o2 : v1 < (mem 188 0) → (0 ≤ v1 ∧ v1 < 9) ∧ q_in32 (v1 + 1))
    (l3 : v1 < (mem 188 0) → q_At yX12_begin_ cX12_begin_ 2 none 1 0 0 (qK (q_rb b) Q) 2 [(2, 188), (0, (v1 + 1))] [] (q_sh0, q_rb b, (q_up (q_up (q_up mem 207 v1 (mem 190 v1)) 208 v1 (mem 195 v1)) 209 v1 (mem 191 v1)))) :
    q_At yX12_begin_ cX12_begin_ 2 none 1 0 0 (qK (q_rb b) Q) 2 [(2, 188), (0, v1)] [] (q_sh0, q_rb b, mem) := by
  refine q_iload_n dX12_begin__2 rfl rfl ?_
  refine q_aload_n dX12_begin__3 rfl rfl ?_
  refine qx_getI (ci := 12) (k := 0) (v := (mem 188 0)) dX12_begin__4 rfl rfl rfl tw1183 rfl qs188 rfl ?_
  refine qx_icmp_ge (tgt := 52) dX12_begin__7 (by decide) (fun c1 => ?_) (fun c1 => ?_)
  · skip
    exact q_vret dX12_begin__52 (qK_i (l1 c1))
  · skip
    refine q_aload_n dX12_begin__10 rfl rfl ?_
    refine q_getR (ci := 12) (k := 33) dX12_begin__11 rfl (by decide) rfl tw1216 (by decide) qs188 qw188_33 (by decide) ?_
    refine q_iload_n dX12_begin__14 rfl rfl ?_
    refine q_aload_n dX12_begin__15 rfl rfl ?_
    refine q_getR (ci := 12) (k := 2) dX12_begin__16 rfl (by decide) rfl tw1185 (by decide) qs188 qw188_2 (by decide) ?_
    refine q_iload_n dX12_begin__19 rfl rfl ?_
    refine qx_iald (v := (mem 190 v1)) dX12_begin__20 qs190 (o2 c1).1 rfl ?_
    refine q_iast dX12_begin__21 qs207 ((o2 c1).1).1 ((o2 c1).1).2 ?_
    refine q_aload_n dX12_begin__22 rfl rfl ?_
    refine q_getR (ci := 12) (k := 34) dX12_begin__23 rfl (by decide) rfl tw1217 (by decide) qs188 qw188_34 (by decide) ?_
    refine q_iload_n dX12_begin__26 rfl rfl ?_
    refine q_aload_n dX12_begin__27 rfl rfl ?_
    refine q_getR (ci := 12) (k := 7) dX12_begin__28 rfl (by decide) rfl tw1190 (by decide) qs188 qw188_7 (by decide) ?_
    refine q_iload_n dX12_begin__31 rfl rfl ?_
    refine qx_iald (v := (mem 195 v1)) dX12_begin__32 qs195 (o2 c1).1 (q_up_c (by decide)) ?_
    refine q_iast dX12_begin__33 qs208 ((o2 c1).1).1 ((o2 c1).1).2 ?_
    refine q_aload_n dX12_begin__34 rfl rfl ?_
    refine q_getR (ci := 12) (k := 35) dX12_begin__35 rfl (by decide) rfl tw1218 (by decide) qs188 qw188_35 (by decide) ?_
    refine q_iload_n dX12_begin__38 rfl rfl ?_
    refine q_aload_n dX12_begin__39 rfl rfl ?_
    refine q_getR (ci := 12) (k := 3) dX12_begin__40 rfl (by decide) rfl tw1186 (by decide) qs188 qw188_3 (by decide) ?_
    refine q_iload_n dX12_begin__43 rfl rfl ?_
    refine qx_iald (v := (mem 191 v1)) dX12_begin__44 qs191 (o2 c1).1 ((q_up_c (by decide)).trans (q_up_c (by decide))) ?_
    refine q_iast dX12_begin__45 qs209 ((o2 c1).1).1 ((o2 c1).1).2 ?_
    refine qx_iinc (L' := [(2, 188), (0, (v1 + 1))]) dX12_begin__46 rfl rfl rfl (o2 c1).2 rfl ?_
    refine q_goto (tgt := 2) dX12_begin__49 (by decide) ?_
    exact l3 c1
theorem dX12_goOn_0 : decode cX12_goOn 0 = .ok (.aload_n 0, 1) := by decide +kernel
theorem dX12_goOn_1 : decode cX12_goOn 1 = .ok (.iconst 0, 1) := by decide +kernel
theorem dX12_goOn_2 : decode cX12_goOn 2 = .ok (.putfield 306, 3) := by decide +kernel
theorem dX12_goOn_5 : decode cX12_goOn 5 = .ok (.iconst 0, 1) := by decide +kernel
theorem dX12_goOn_6 : decode cX12_goOn 6 = .ok (.istore_n 1, 1) := by decide +kernel
theorem dX12_goOn_7 : decode cX12_goOn 7 = .ok (.iload_n 1, 1) := by decide +kernel
theorem dX12_goOn_8 : decode cX12_goOn 8 = .ok (.aload_n 0, 1) := by decide +kernel
theorem dX12_goOn_9 : decode cX12_goOn 9 = .ok (.getfield 134, 3) := by decide +kernel
theorem dX12_goOn_12 : decode cX12_goOn 12 = .ok (.if_icmp .ge 73, 3) := by decide +kernel
theorem dX12_goOn_15 : decode cX12_goOn 15 = .ok (.aload_n 0, 1) := by decide +kernel
theorem dX12_goOn_16 : decode cX12_goOn 16 = .ok (.getfield 57, 3) := by decide +kernel
theorem dX12_goOn_19 : decode cX12_goOn 19 = .ok (.iload_n 1, 1) := by decide +kernel
theorem dX12_goOn_20 : decode cX12_goOn 20 = .ok (.aload_n 0, 1) := by decide +kernel
theorem dX12_goOn_21 : decode cX12_goOn 21 = .ok (.getfield 75, 3) := by decide +kernel
theorem dX12_goOn_24 : decode cX12_goOn 24 = .ok (.iload_n 1, 1) := by decide +kernel
theorem dX12_goOn_25 : decode cX12_goOn 25 = .ok (.iaload, 1) := by decide +kernel
theorem dX12_goOn_26 : decode cX12_goOn 26 = .ok (.ifCond .le 7, 3) := by decide +kernel
theorem dX12_goOn_29 : decode cX12_goOn 29 = .ok (.iconst 0, 1) := by decide +kernel
theorem dX12_goOn_30 : decode cX12_goOn 30 = .ok (.goto 18, 3) := by decide +kernel
theorem dX12_goOn_33 : decode cX12_goOn 33 = .ok (.aload_n 0, 1) := by decide +kernel
theorem dX12_goOn_34 : decode cX12_goOn 34 = .ok (.getfield 78, 3) := by decide +kernel
theorem dX12_goOn_37 : decode cX12_goOn 37 = .ok (.iload_n 1, 1) := by decide +kernel
theorem dX12_goOn_38 : decode cX12_goOn 38 = .ok (.iaload, 1) := by decide +kernel
theorem dX12_goOn_39 : decode cX12_goOn 39 = .ok (.aload_n 0, 1) := by decide +kernel
theorem dX12_goOn_40 : decode cX12_goOn 40 = .ok (.getfield 72, 3) := by decide +kernel
theorem dX12_goOn_43 : decode cX12_goOn 43 = .ok (.iload_n 1, 1) := by decide +kernel
theorem dX12_goOn_44 : decode cX12_goOn 44 = .ok (.iaload, 1) := by decide +kernel
theorem dX12_goOn_45 : decode cX12_goOn 45 = .ok (.invokestatic 234, 3) := by decide +kernel
theorem dX12_goOn_48 : decode cX12_goOn 48 = .ok (.iastore, 1) := by decide +kernel
theorem dX12_goOn_49 : decode cX12_goOn 49 = .ok (.aload_n 0, 1) := by decide +kernel
theorem dX12_goOn_50 : decode cX12_goOn 50 = .ok (.getfield 72, 3) := by decide +kernel
theorem dX12_goOn_53 : decode cX12_goOn 53 = .ok (.iload_n 1, 1) := by decide +kernel
theorem dX12_goOn_54 : decode cX12_goOn 54 = .ok (.dup2, 1) := by decide +kernel
theorem dX12_goOn_55 : decode cX12_goOn 55 = .ok (.iaload, 1) := by decide +kernel
theorem dX12_goOn_56 : decode cX12_goOn 56 = .ok (.aload_n 0, 1) := by decide +kernel
theorem dX12_goOn_57 : decode cX12_goOn 57 = .ok (.getfield 57, 3) := by decide +kernel
theorem dX12_goOn_60 : decode cX12_goOn 60 = .ok (.iload_n 1, 1) := by decide +kernel
theorem dX12_goOn_61 : decode cX12_goOn 61 = .ok (.iaload, 1) := by decide +kernel
theorem dX12_goOn_62 : decode cX12_goOn 62 = .ok (.isub, 1) := by decide +kernel
theorem dX12_goOn_63 : decode cX12_goOn 63 = .ok (.iastore, 1) := by decide +kernel
theorem dX12_goOn_64 : decode cX12_goOn 64 = .ok (.aload_n 0, 1) := by decide +kernel
theorem dX12_goOn_65 : decode cX12_goOn 65 = .ok (.dup, 1) := by decide +kernel
theorem dX12_goOn_66 : decode cX12_goOn 66 = .ok (.getfield 306, 3) := by decide +kernel
theorem dX12_goOn_69 : decode cX12_goOn 69 = .ok (.aload_n 0, 1) := by decide +kernel
theorem dX12_goOn_70 : decode cX12_goOn 70 = .ok (.getfield 57, 3) := by decide +kernel
theorem dX12_goOn_73 : decode cX12_goOn 73 = .ok (.iload_n 1, 1) := by decide +kernel
theorem dX12_goOn_74 : decode cX12_goOn 74 = .ok (.iaload, 1) := by decide +kernel
theorem dX12_goOn_75 : decode cX12_goOn 75 = .ok (.iadd, 1) := by decide +kernel
theorem dX12_goOn_76 : decode cX12_goOn 76 = .ok (.putfield 306, 3) := by decide +kernel
theorem dX12_goOn_79 : decode cX12_goOn 79 = .ok (.iinc 1 1, 3) := by decide +kernel
theorem dX12_goOn_82 : decode cX12_goOn 82 = .ok (.goto (-75), 3) := by decide +kernel
theorem dX12_goOn_85 : decode cX12_goOn 85 = .ok (.iconst 0, 1) := by decide +kernel
theorem dX12_goOn_86 : decode cX12_goOn 86 = .ok (.istore_n 1, 1) := by decide +kernel
theorem dX12_goOn_87 : decode cX12_goOn 87 = .ok (.iconst 0, 1) := by decide +kernel
theorem dX12_goOn_88 : decode cX12_goOn 88 = .ok (.istore_n 2, 1) := by decide +kernel
theorem dX12_goOn_89 : decode cX12_goOn 89 = .ok (.iload_n 2, 1) := by decide +kernel
theorem dX12_goOn_90 : decode cX12_goOn 90 = .ok (.aload_n 0, 1) := by decide +kernel
theorem dX12_goOn_91 : decode cX12_goOn 91 = .ok (.getfield 134, 3) := by decide +kernel
theorem dX12_goOn_94 : decode cX12_goOn 94 = .ok (.if_icmp .ge 77, 3) := by decide +kernel
theorem dX12_goOn_97 : decode cX12_goOn 97 = .ok (.aload_n 0, 1) := by decide +kernel
theorem dX12_goOn_98 : decode cX12_goOn 98 = .ok (.getfield 25, 3) := by decide +kernel
theorem dX12_goOn_101 : decode cX12_goOn 101 = .ok (.iload_n 2, 1) := by decide +kernel
theorem dX12_goOn_102 : decode cX12_goOn 102 = .ok (.iaload, 1) := by decide +kernel
theorem dX12_goOn_103 : decode cX12_goOn 103 = .ok (.istore_n 3, 1) := by decide +kernel
theorem dX12_goOn_104 : decode cX12_goOn 104 = .ok (.iload_n 3, 1) := by decide +kernel
theorem dX12_goOn_105 : decode cX12_goOn 105 = .ok (.iconst (-1), 1) := by decide +kernel
theorem dX12_goOn_106 : decode cX12_goOn 106 = .ok (.if_icmp .ne 7, 3) := by decide +kernel
theorem dX12_goOn_109 : decode cX12_goOn 109 = .ok (.iconst 0, 1) := by decide +kernel
theorem dX12_goOn_110 : decode cX12_goOn 110 = .ok (.goto 25, 3) := by decide +kernel
theorem dX12_goOn_113 : decode cX12_goOn 113 = .ok (.aload_n 0, 1) := by decide +kernel
theorem dX12_goOn_114 : decode cX12_goOn 114 = .ok (.getfield 57, 3) := by decide +kernel
theorem dX12_goOn_117 : decode cX12_goOn 117 = .ok (.iload_n 2, 1) := by decide +kernel
theorem dX12_goOn_118 : decode cX12_goOn 118 = .ok (.iaload, 1) := by decide +kernel
theorem dX12_goOn_119 : decode cX12_goOn 119 = .ok (.aload_n 0, 1) := by decide +kernel
theorem dX12_goOn_120 : decode cX12_goOn 120 = .ok (.getfield 9, 3) := by decide +kernel
theorem dX12_goOn_123 : decode cX12_goOn 123 = .ok (.iload_n 3, 1) := by decide +kernel
theorem dX12_goOn_124 : decode cX12_goOn 124 = .ok (.iaload, 1) := by decide +kernel
theorem dX12_goOn_125 : decode cX12_goOn 125 = .ok (.aload_n 0, 1) := by decide +kernel
theorem dX12_goOn_126 : decode cX12_goOn 126 = .ok (.getfield 72, 3) := by decide +kernel
theorem dX12_goOn_129 : decode cX12_goOn 129 = .ok (.iload_n 3, 1) := by decide +kernel
theorem dX12_goOn_130 : decode cX12_goOn 130 = .ok (.iaload, 1) := by decide +kernel
theorem dX12_goOn_131 : decode cX12_goOn 131 = .ok (.isub, 1) := by decide +kernel
theorem dX12_goOn_132 : decode cX12_goOn 132 = .ok (.invokestatic 234, 3) := by decide +kernel
theorem dX12_goOn_135 : decode cX12_goOn 135 = .ok (.istore 4, 2) := by decide +kernel
theorem dX12_goOn_137 : decode cX12_goOn 137 = .ok (.iload 4, 2) := by decide +kernel
theorem dX12_goOn_139 : decode cX12_goOn 139 = .ok (.ifCond .le 14, 3) := by decide +kernel
theorem dX12_goOn_142 : decode cX12_goOn 142 = .ok (.aload_n 0, 1) := by decide +kernel
theorem dX12_goOn_143 : decode cX12_goOn 143 = .ok (.getfield 72, 3) := by decide +kernel
theorem dX12_goOn_146 : decode cX12_goOn 146 = .ok (.iload_n 3, 1) := by decide +kernel
theorem dX12_goOn_147 : decode cX12_goOn 147 = .ok (.dup2, 1) := by decide +kernel
theorem dX12_goOn_148 : decode cX12_goOn 148 = .ok (.iaload, 1) := by decide +kernel
theorem dX12_goOn_149 : decode cX12_goOn 149 = .ok (.iload 4, 2) := by decide +kernel
theorem dX12_goOn_151 : decode cX12_goOn 151 = .ok (.iadd, 1) := by decide +kernel
theorem dX12_goOn_152 : decode cX12_goOn 152 = .ok (.iastore, 1) := by decide +kernel
theorem dX12_goOn_153 : decode cX12_goOn 153 = .ok (.iload_n 1, 1) := by decide +kernel
theorem dX12_goOn_154 : decode cX12_goOn 154 = .ok (.aload_n 0, 1) := by decide +kernel
theorem dX12_goOn_155 : decode cX12_goOn 155 = .ok (.getfield 57, 3) := by decide +kernel
theorem dX12_goOn_158 : decode cX12_goOn 158 = .ok (.iload_n 2, 1) := by decide +kernel
theorem dX12_goOn_159 : decode cX12_goOn 159 = .ok (.iaload, 1) := by decide +kernel
theorem dX12_goOn_160 : decode cX12_goOn 160 = .ok (.iload 4, 2) := by decide +kernel
theorem dX12_goOn_162 : decode cX12_goOn 162 = .ok (.isub, 1) := by decide +kernel
theorem dX12_goOn_163 : decode cX12_goOn 163 = .ok (.iadd, 1) := by decide +kernel
theorem dX12_goOn_164 : decode cX12_goOn 164 = .ok (.istore_n 1, 1) := by decide +kernel
theorem dX12_goOn_165 : decode cX12_goOn 165 = .ok (.iinc 2 1, 3) := by decide +kernel
theorem dX12_goOn_168 : decode cX12_goOn 168 = .ok (.goto (-79), 3) := by decide +kernel
theorem dX12_goOn_171 : decode cX12_goOn 171 = .ok (.iconst 0, 1) := by decide +kernel
theorem dX12_goOn_172 : decode cX12_goOn 172 = .ok (.istore_n 2, 1) := by decide +kernel
theorem dX12_goOn_173 : decode cX12_goOn 173 = .ok (.iload_n 2, 1) := by decide +kernel
theorem dX12_goOn_174 : decode cX12_goOn 174 = .ok (.aload_n 0, 1) := by decide +kernel
theorem dX12_goOn_175 : decode cX12_goOn 175 = .ok (.getfield 134, 3) := by decide +kernel
theorem dX12_goOn_178 : decode cX12_goOn 178 = .ok (.if_icmp .ge 27, 3) := by decide +kernel
theorem dX12_goOn_181 : decode cX12_goOn 181 = .ok (.aload_n 0, 1) := by decide +kernel
theorem dX12_goOn_182 : decode cX12_goOn 182 = .ok (.getfield 75, 3) := by decide +kernel
theorem dX12_goOn_185 : decode cX12_goOn 185 = .ok (.iload_n 2, 1) := by decide +kernel
theorem dX12_goOn_186 : decode cX12_goOn 186 = .ok (.iconst 0, 1) := by decide +kernel
theorem dX12_goOn_187 : decode cX12_goOn 187 = .ok (.aload_n 0, 1) := by decide +kernel
theorem dX12_goOn_188 : decode cX12_goOn 188 = .ok (.getfield 75, 3) := by decide +kernel
theorem dX12_goOn_191 : decode cX12_goOn 191 = .ok (.iload_n 2, 1) := by decide +kernel
theorem dX12_goOn_192 : decode cX12_goOn 192 = .ok (.iaload, 1) := by decide +kernel
theorem dX12_goOn_193 : decode cX12_goOn 193 = .ok (.iconst 1, 1) := by decide +kernel
theorem dX12_goOn_194 : decode cX12_goOn 194 = .ok (.isub, 1) := by decide +kernel
theorem dX12_goOn_195 : decode cX12_goOn 195 = .ok (.invokestatic 240, 3) := by decide +kernel
theorem dX12_goOn_198 : decode cX12_goOn 198 = .ok (.iastore, 1) := by decide +kernel
theorem dX12_goOn_199 : decode cX12_goOn 199 = .ok (.iinc 2 1, 3) := by decide +kernel
theorem dX12_goOn_202 : decode cX12_goOn 202 = .ok (.goto (-29), 3) := by decide +kernel
theorem dX12_goOn_205 : decode cX12_goOn 205 = .ok (.iload_n 1, 1) := by decide +kernel
theorem dX12_goOn_206 : decode cX12_goOn 206 = .ok (.ireturn, 1) := by decide +kernel
theorem bkX12_goOn_0 {b : Int} {mem : qm} {Q : Int → qm → Prop}
    (l1 : q_At yX12_goOn cX12_goOn 5 (some .int) 1 0 0 (qK (q_rb b) Q) 7 [(2, 188), (0, 0), (4, 0), (4, 0), (4, 0)] [] (q_sh0, q_rb b, (q_up mem 188 36 0))) :
    q_At yX12_goOn cX12_goOn 5 (some .int) 1 0 0 (qK (q_rb b) Q) 0 [(2, 188), (4, 0), (4, 0), (4, 0), (4, 0)] [] (q_sh0, q_rb b, mem) := by
  refine q_aload_n dX12_goOn_0 rfl rfl ?_
  refine qx_iconst dX12_goOn_1 rfl rfl ?_
  refine q_putI (ci := 12) (k := 36) (kI := 36) (ty := .int) dX12_goOn_2 rfl (by decide) rfl tw1219 rfl rfl rfl (fun _ => ⟨rfl, rfl⟩) qs188 ?_
  refine qx_iconst dX12_goOn_5 rfl rfl ?_
  refine qx_istore_n (L' := [(2, 188), (0, 0), (4, 0), (4, 0), (4, 0)]) dX12_goOn_6 rfl rfl rfl rfl ?_
  exact l1
theorem bkX12_goOn_7 {b : Int} {mem : qm} {Q : Int → qm → Prop}
    {v1 : Int}
    (l1 : (mem 188 0) ≤ v1 → q_At yX12_goOn cX12_goOn 5 (some .int) 1 0 0 (qK (q_rb b) Q) 89 [(2, 188), (0, 0), (0, 0), (4, 0), (4, 0)] [] (q_sh0, q_rb b, mem))
    (o2 : v1 < (mem 188 0) → (0 ≤ v1 ∧ v1 < 9))
    (o3 : v1 < (mem 188 0) → (mem 208 v1) ≤ 0 → q_in32 ((mem 207 v1) - (min (mem 209 v1) (mem 207 v1))) ∧ q_in32 ((mem 188 36) + (min (mem 209 v1) (mem 207 v1))) ∧ q_in32 (v1 + 1))
    (l4 : v1 < (mem 188 0) → (mem 208 v1) ≤ 0 → q_At yX12_goOn cX12_goOn 5 (some .int) 1 0 0 (qK (q_rb b) Q) 7 [(2, 188), (0, (v1 + 1)), (4, 0), (4, 0), (4, 0)] [] (q_sh0, q_rb b, (q_up (q_up (q_up mem 202 v1 (min (mem 209 v1) (mem 207 v1))) 207 v1 ((mem 207 v1) - (min (mem 209 v1) (mem 207 v1)))) 188 36 ((mem 188 36) + (min (mem 209 v1) (mem 207 v1))))))
    (o5 : v1 < (mem 188 0) → 0 < (mem 208 v1) → q_in32 ((mem 207 v1) - (0 : Int)) ∧ q_in32 ((mem 188 36) + (0 : Int)) ∧ q_in32 (v1 + 1))
    (l6 : v1 < (mem 188 0) → 0 < (mem 208 v1) → q_At yX12_goOn cX12_goOn 5 (some .int) 1 0 0 (qK (q_rb b) Q) 7 [(2, 188), (0, (v1 + 1)), (4, 0), (4, 0), (4, 0)] [] (q_sh0, q_rb b, (q_up (q_up (q_up mem 202 v1 0) 207 v1 ((mem 207 v1) - (0 : Int))) 188 36 ((mem 188 36) + (0 : Int))))) :
    q_At yX12_goOn cX12_goOn 5 (some .int) 1 0 0 (qK (q_rb b) Q) 7 [(2, 188), (0, v1), (4, 0), (4, 0), (4, 0)] [] (q_sh0, q_rb b, mem) := by
  refine q_iload_n dX12_goOn_7 rfl rfl ?_
  refine q_aload_n dX12_goOn_8 rfl rfl ?_
  refine qx_getI (ci := 12) (k := 0) (v := (mem 188 0)) dX12_goOn_9 rfl rfl rfl tw1183 rfl qs188 rfl ?_
  refine qx_icmp_ge (tgt := 85) dX12_goOn_12 (by decide) (fun c1 => ?_) (fun c1 => ?_)
  · skip
    refine qx_iconst dX12_goOn_85 rfl rfl ?_
    refine qx_istore_n (L' := [(2, 188), (0, 0), (4, 0), (4, 0), (4, 0)]) dX12_goOn_86 rfl rfl rfl rfl ?_
    refine qx_iconst dX12_goOn_87 rfl rfl ?_
    refine qx_istore_n (L' := [(2, 188), (0, 0), (0, 0), (4, 0), (4, 0)]) dX12_goOn_88 rfl rfl rfl rfl ?_
    exact l1 c1
  · skip
    refine q_aload_n dX12_goOn_15 rfl rfl ?_
    refine q_getR (ci := 12) (k := 27) dX12_goOn_16 rfl (by decide) rfl tw1210 (by decide) qs188 qw188_27 (by decide) ?_
    refine q_iload_n dX12_goOn_19 rfl rfl ?_
    refine q_aload_n dX12_goOn_20 rfl rfl ?_
    refine q_getR (ci := 12) (k := 34) dX12_goOn_21 rfl (by decide) rfl tw1217 (by decide) qs188 qw188_34 (by decide) ?_
    refine q_iload_n dX12_goOn_24 rfl rfl ?_
    refine qx_iald (v := (mem 208 v1)) dX12_goOn_25 qs208 (o2 c1) rfl ?_
    refine qx_if_le (tgt := 33) dX12_goOn_26 (by decide) (fun c2 => ?_) (fun c2 => ?_)
    · skip
      refine q_aload_n dX12_goOn_33 rfl rfl ?_
      refine q_getR (ci := 12) (k := 35) dX12_goOn_34 rfl (by decide) rfl tw1218 (by decide) qs188 qw188_35 (by decide) ?_
      refine q_iload_n dX12_goOn_37 rfl rfl ?_
      refine qx_iald (v := (mem 209 v1)) dX12_goOn_38 qs209 (o2 c1) rfl ?_
      refine q_aload_n dX12_goOn_39 rfl rfl ?_
      refine q_getR (ci := 12) (k := 33) dX12_goOn_40 rfl (by decide) rfl tw1216 (by decide) qs188 qw188_33 (by decide) ?_
      refine q_iload_n dX12_goOn_43 rfl rfl ?_
      refine qx_iald (v := (mem 207 v1)) dX12_goOn_44 qs207 (o2 c1) rfl ?_
      refine q_min dX12_goOn_45 tw1457 tw429 tw15 tw430 (by decide) (Nat.le_of_ble_eq_true rfl) ?_
      refine q_iast dX12_goOn_48 qs202 ((o2 c1)).1 ((o2 c1)).2 ?_
      refine q_aload_n dX12_goOn_49 rfl rfl ?_
      refine q_getR (ci := 12) (k := 33) dX12_goOn_50 rfl (by decide) rfl tw1216 (by decide) qs188 qw188_33 (by decide) ?_
      refine q_iload_n dX12_goOn_53 rfl rfl ?_
      refine q_dup2 dX12_goOn_54 (fun h => by cases h) (fun h => by cases h) ?_
      refine qx_iald (v := (mem 207 v1)) dX12_goOn_55 qs207 (o2 c1) (q_up_c (by decide)) ?_
      refine q_aload_n dX12_goOn_56 rfl rfl ?_
      refine q_getR (ci := 12) (k := 27) dX12_goOn_57 rfl (by decide) rfl tw1210 (by decide) qs188 qw188_27 (by decide) ?_
      refine q_iload_n dX12_goOn_60 rfl rfl ?_
      refine qx_iald (v := (min (mem 209 v1) (mem 207 v1))) dX12_goOn_61 qs202 (o2 c1) q_up_s ?_
      refine qx_isub dX12_goOn_62 (o3 c1 c2).1 ?_
      refine q_iast dX12_goOn_63 qs207 ((o2 c1)).1 ((o2 c1)).2 ?_
      refine q_aload_n dX12_goOn_64 rfl rfl ?_
      refine q_dup dX12_goOn_65 (fun h => by cases h) ?_
      refine qx_getI (ci := 12) (k := 36) (v := (mem 188 36)) dX12_goOn_66 rfl rfl rfl tw1219 rfl qs188 ((q_up_c (by decide)).trans (q_up_c (by decide))) ?_
      refine q_aload_n dX12_goOn_69 rfl rfl ?_
      refine q_getR (ci := 12) (k := 27) dX12_goOn_70 rfl (by decide) rfl tw1210 (by decide) qs188 qw188_27 (by decide) ?_
      refine q_iload_n dX12_goOn_73 rfl rfl ?_
      refine qx_iald (v := (min (mem 209 v1) (mem 207 v1))) dX12_goOn_74 qs202 (o2 c1) ((q_up_c (by decide)).trans q_up_s) ?_
      refine qx_iadd dX12_goOn_75 (o3 c1 c2).2.1 ?_
      refine q_putI (ci := 12) (k := 36) (kI := 36) (ty := .int) dX12_goOn_76 rfl (by decide) rfl tw1219 rfl rfl rfl (fun _ => ⟨rfl, rfl⟩) qs188 ?_
      refine qx_iinc (L' := [(2, 188), (0, (v1 + 1)), (4, 0), (4, 0), (4, 0)]) dX12_goOn_79 rfl rfl rfl (o3 c1 c2).2.2 rfl ?_
      refine q_goto (tgt := 7) dX12_goOn_82 (by decide) ?_
      exact l4 c1 c2
    · skip
      refine qx_iconst dX12_goOn_29 rfl rfl ?_
      refine q_goto (tgt := 48) dX12_goOn_30 (by decide) ?_
      refine q_iast dX12_goOn_48 qs202 ((o2 c1)).1 ((o2 c1)).2 ?_
      refine q_aload_n dX12_goOn_49 rfl rfl ?_
      refine q_getR (ci := 12) (k := 33) dX12_goOn_50 rfl (by decide) rfl tw1216 (by decide) qs188 qw188_33 (by decide) ?_
      refine q_iload_n dX12_goOn_53 rfl rfl ?_
      refine q_dup2 dX12_goOn_54 (fun h => by cases h) (fun h => by cases h) ?_
      refine qx_iald (v := (mem 207 v1)) dX12_goOn_55 qs207 (o2 c1) (q_up_c (by decide)) ?_
      refine q_aload_n dX12_goOn_56 rfl rfl ?_
      refine q_getR (ci := 12) (k := 27) dX12_goOn_57 rfl (by decide) rfl tw1210 (by decide) qs188 qw188_27 (by decide) ?_
      refine q_iload_n dX12_goOn_60 rfl rfl ?_
      refine qx_iald (v := (0 : Int)) dX12_goOn_61 qs202 (o2 c1) q_up_s ?_
      refine qx_isub dX12_goOn_62 (o5 c1 c2).1 ?_
      refine q_iast dX12_goOn_63 qs207 ((o2 c1)).1 ((o2 c1)).2 ?_
      refine q_aload_n dX12_goOn_64 rfl rfl ?_
      refine q_dup dX12_goOn_65 (fun h => by cases h) ?_
      refine qx_getI (ci := 12) (k := 36) (v := (mem 188 36)) dX12_goOn_66 rfl rfl rfl tw1219 rfl qs188 ((q_up_c (by decide)).trans (q_up_c (by decide))) ?_
      refine q_aload_n dX12_goOn_69 rfl rfl ?_
      refine q_getR (ci := 12) (k := 27) dX12_goOn_70 rfl (by decide) rfl tw1210 (by decide) qs188 qw188_27 (by decide) ?_
      refine q_iload_n dX12_goOn_73 rfl rfl ?_
      refine qx_iald (v := (0 : Int)) dX12_goOn_74 qs202 (o2 c1) ((q_up_c (by decide)).trans q_up_s) ?_
      refine qx_iadd dX12_goOn_75 (o5 c1 c2).2.1 ?_
      refine q_putI (ci := 12) (k := 36) (kI := 36) (ty := .int) dX12_goOn_76 rfl (by decide) rfl tw1219 rfl rfl rfl (fun _ => ⟨rfl, rfl⟩) qs188 ?_
      refine qx_iinc (L' := [(2, 188), (0, (v1 + 1)), (4, 0), (4, 0), (4, 0)]) dX12_goOn_79 rfl rfl rfl (o5 c1 c2).2.2 rfl ?_
      refine q_goto (tgt := 7) dX12_goOn_82 (by decide) ?_
      exact l6 c1 c2
theorem bkX12_goOn_89 {b : Int} {mem : qm} {Q : Int → qm → Prop}
    {v1 v2 : Int}
    (l1 : (mem 188 0) ≤ v2 → q_At yX12_goOn cX12_goOn 5 (some .int) 1 0 0 (qK (q_rb b) Q) 173 [(2, 188), (0, v1), (0, 0), (4, 0), (4, 0)] [] (q_sh0, q_rb b, mem))
    (o2 : v2 < (mem 188 0) → (0 ≤ v2 ∧ v2 < 9))
    (o3 : v2 < (mem 188 0) → (mem 194 v2) ≠ (-1) → (0 ≤ (mem 194 v2) ∧ (mem 194 v2) < 9) ∧ q_in32 ((mem 189 (mem 194 v2)) - (mem 207 (mem 194 v2))))
    (o4 : v2 < (mem 188 0) → (mem 194 v2) ≠ (-1) → (min (mem 202 v2) ((mem 189 (mem 194 v2)) - (mem 207 (mem 194 v2)))) ≤ 0 → q_in32 ((mem 202 v2) - (min (mem 202 v2) ((mem 189 (mem 194 v2)) - (mem 207 (mem 194 v2))))) ∧ q_in32 (v1 + ((mem 202 v2) - (min (mem 202 v2) ((mem 189 (mem 194 v2)) - (mem 207 (mem 194 v2)))))) ∧ q_in32 (v2 + 1))
    (l5 : v2 < (mem 188 0) → (mem 194 v2) ≠ (-1) → (min (mem 202 v2) ((mem 189 (mem 194 v2)) - (mem 207 (mem 194 v2)))) ≤ 0 → q_At yX12_goOn cX12_goOn 5 (some .int) 1 0 0 (qK (q_rb b) Q) 89 [(2, 188), (0, (v1 + ((mem 202 v2) - (min (mem 202 v2) ((mem 189 (mem 194 v2)) - (mem 207 (mem 194 v2))))))), (0, (v2 + 1)), (4, 0), (4, 0)] [] (q_sh0, q_rb b, mem))
    (o6 : v2 < (mem 188 0) → (mem 194 v2) ≠ (-1) → 0 < (min (mem 202 v2) ((mem 189 (mem 194 v2)) - (mem 207 (mem 194 v2)))) → q_in32 ((mem 207 (mem 194 v2)) + (min (mem 202 v2) ((mem 189 (mem 194 v2)) - (mem 207 (mem 194 v2))))) ∧ q_in32 ((mem 202 v2) - (min (mem 202 v2) ((mem 189 (mem 194 v2)) - (mem 207 (mem 194 v2))))) ∧ q_in32 (v1 + ((mem 202 v2) - (min (mem 202 v2) ((mem 189 (mem 194 v2)) - (mem 207 (mem 194 v2)))))) ∧ q_in32 (v2 + 1))
    (l7 : v2 < (mem 188 0) → (mem 194 v2) ≠ (-1) → 0 < (min (mem 202 v2) ((mem 189 (mem 194 v2)) - (mem 207 (mem 194 v2)))) → q_At yX12_goOn cX12_goOn 5 (some .int) 1 0 0 (qK (q_rb b) Q) 89 [(2, 188), (0, (v1 + ((mem 202 v2) - (min (mem 202 v2) ((mem 189 (mem 194 v2)) - (mem 207 (mem 194 v2))))))), (0, (v2 + 1)), (4, 0), (4, 0)] [] (q_sh0, q_rb b, (q_up mem 207 (mem 194 v2) ((mem 207 (mem 194 v2)) + (min (mem 202 v2) ((mem 189 (mem 194 v2)) - (mem 207 (mem 194 v2))))))))
    (o8 : v2 < (mem 188 0) → (mem 194 v2) = (-1) → q_in32 ((mem 202 v2) - 0) ∧ q_in32 (v1 + ((mem 202 v2) - 0)) ∧ q_in32 (v2 + 1))
    (l9 : v2 < (mem 188 0) → (mem 194 v2) = (-1) → q_At yX12_goOn cX12_goOn 5 (some .int) 1 0 0 (qK (q_rb b) Q) 89 [(2, 188), (0, (v1 + ((mem 202 v2) - 0))), (0, (v2 + 1)), (4, 0), (4, 0)] [] (q_sh0, q_rb b, mem)) :
    q_At yX12_goOn cX12_goOn 5 (some .int) 1 0 0 (qK (q_rb b) Q) 89 [(2, 188), (0, v1), (0, v2), (4, 0), (4, 0)] [] (q_sh0, q_rb b, mem) := by
  refine q_iload_n dX12_goOn_89 rfl rfl ?_
  refine q_aload_n dX12_goOn_90 rfl rfl ?_
  refine qx_getI (ci := 12) (k := 0) (v := (mem 188 0)) dX12_goOn_91 rfl rfl rfl tw1183 rfl qs188 rfl ?_
  refine qx_icmp_ge (tgt := 171) dX12_goOn_94 (by decide) (fun c1 => ?_) (fun c1 => ?_)
  · skip
    refine qx_iconst dX12_goOn_171 rfl rfl ?_
    refine qx_istore_n (L' := [(2, 188), (0, v1), (0, 0), (4, 0), (4, 0)]) dX12_goOn_172 rfl rfl rfl rfl ?_
    exact l1 c1
  · skip
    refine q_aload_n dX12_goOn_97 rfl rfl ?_
    refine q_getR (ci := 12) (k := 6) dX12_goOn_98 rfl (by decide) rfl tw1189 (by decide) qs188 qw188_6 (by decide) ?_
    refine q_iload_n dX12_goOn_101 rfl rfl ?_
    refine qx_iald (v := (mem 194 v2)) dX12_goOn_102 qs194 (o2 c1) rfl ?_
    refine qx_istore_n (L' := [(2, 188), (0, v1), (0, v2), (0, (mem 194 v2)), (4, 0)]) dX12_goOn_103 rfl rfl rfl rfl ?_
    refine q_iload_n dX12_goOn_104 rfl rfl ?_
    refine qx_iconst dX12_goOn_105 rfl rfl ?_
    refine qx_icmp_ne (tgt := 113) dX12_goOn_106 (by decide) (fun c2 => ?_) (fun c2 => ?_)
    · skip
      refine q_aload_n dX12_goOn_113 rfl rfl ?_
      refine q_getR (ci := 12) (k := 27) dX12_goOn_114 rfl (by decide) rfl tw1210 (by decide) qs188 qw188_27 (by decide) ?_
      refine q_iload_n dX12_goOn_117 rfl rfl ?_
      refine qx_iald (v := (mem 202 v2)) dX12_goOn_118 qs202 (o2 c1) rfl ?_
      refine q_aload_n dX12_goOn_119 rfl rfl ?_
      refine q_getR (ci := 12) (k := 1) dX12_goOn_120 rfl (by decide) rfl tw1184 (by decide) qs188 qw188_1 (by decide) ?_
      refine q_iload_n dX12_goOn_123 rfl rfl ?_
      refine qx_iald (v := (mem 189 (mem 194 v2))) dX12_goOn_124 qs189 (o3 c1 c2).1 rfl ?_
      refine q_aload_n dX12_goOn_125 rfl rfl ?_
      refine q_getR (ci := 12) (k := 33) dX12_goOn_126 rfl (by decide) rfl tw1216 (by decide) qs188 qw188_33 (by decide) ?_
      refine q_iload_n dX12_goOn_129 rfl rfl ?_
      refine qx_iald (v := (mem 207 (mem 194 v2))) dX12_goOn_130 qs207 (o3 c1 c2).1 rfl ?_
      refine qx_isub dX12_goOn_131 (o3 c1 c2).2 ?_
      refine q_min dX12_goOn_132 tw1457 tw429 tw15 tw430 (by decide) (Nat.le_of_ble_eq_true rfl) ?_
      refine qx_istore (L' := [(2, 188), (0, v1), (0, v2), (0, (mem 194 v2)), (0, (min (mem 202 v2) ((mem 189 (mem 194 v2)) - (mem 207 (mem 194 v2)))))]) dX12_goOn_135 rfl rfl rfl ?_
      refine q_iload dX12_goOn_137 rfl ?_
      refine qx_if_le (tgt := 153) dX12_goOn_139 (by decide) (fun c3 => ?_) (fun c3 => ?_)
      · skip
        refine q_iload_n dX12_goOn_153 rfl rfl ?_
        refine q_aload_n dX12_goOn_154 rfl rfl ?_
        refine q_getR (ci := 12) (k := 27) dX12_goOn_155 rfl (by decide) rfl tw1210 (by decide) qs188 qw188_27 (by decide) ?_
        refine q_iload_n dX12_goOn_158 rfl rfl ?_
        refine qx_iald (v := (mem 202 v2)) dX12_goOn_159 qs202 (o2 c1) rfl ?_
        refine q_iload dX12_goOn_160 rfl ?_
        refine qx_isub dX12_goOn_162 (o4 c1 c2 c3).1 ?_
        refine qx_iadd dX12_goOn_163 (o4 c1 c2 c3).2.1 ?_
        refine qx_istore_n (L' := [(2, 188), (0, (v1 + ((mem 202 v2) - (min (mem 202 v2) ((mem 189 (mem 194 v2)) - (mem 207 (mem 194 v2))))))), (0, v2), (0, (mem 194 v2)), (0, (min (mem 202 v2) ((mem 189 (mem 194 v2)) - (mem 207 (mem 194 v2)))))]) dX12_goOn_164 rfl rfl rfl rfl ?_
        refine qx_iinc (L' := [(2, 188), (0, (v1 + ((mem 202 v2) - (min (mem 202 v2) ((mem 189 (mem 194 v2)) - (mem 207 (mem 194 v2))))))), (0, (v2 + 1)), (0, (mem 194 v2)), (0, (min (mem 202 v2) ((mem 189 (mem 194 v2)) - (mem 207 (mem 194 v2)))))]) dX12_goOn_165 rfl rfl rfl (o4 c1 c2 c3).2.2 rfl ?_
        refine q_goto (tgt := 89) dX12_goOn_168 (by decide) ?_
        refine q_kill (L' := [(2, 188), (0, (v1 + ((mem 202 v2) - (min (mem 202 v2) ((mem 189 (mem 194 v2)) - (mem 207 (mem 194 v2))))))), (0, (v2 + 1)), (4, 0), (0, (min (mem 202 v2) ((mem 189 (mem 194 v2)) - (mem 207 (mem 194 v2)))))]) 3 rfl ?_
        refine q_kill (L' := [(2, 188), (0, (v1 + ((mem 202 v2) - (min (mem 202 v2) ((mem 189 (mem 194 v2)) - (mem 207 (mem 194 v2))))))), (0, (v2 + 1)), (4, 0), (4, 0)]) 4 rfl ?_
        exact l5 c1 c2 c3
      · skip
        refine q_aload_n dX12_goOn_142 rfl rfl ?_
        refine q_getR (ci := 12) (k := 33) dX12_goOn_143 rfl (by decide) rfl tw1216 (by decide) qs188 qw188_33 (by decide) ?_
        refine q_iload_n dX12_goOn_146 rfl rfl ?_
        refine q_dup2 dX12_goOn_147 (fun h => by cases h) (fun h => by cases h) ?_
        refine qx_iald (v := (mem 207 (mem 194 v2))) dX12_goOn_148 qs207 (o3 c1 c2).1 rfl ?_
        refine q_iload dX12_goOn_149 rfl ?_
        refine qx_iadd dX12_goOn_151 (o6 c1 c2 c3).1 ?_
        refine q_iast dX12_goOn_152 qs207 ((o3 c1 c2).1).1 ((o3 c1 c2).1).2 ?_
        refine q_iload_n dX12_goOn_153 rfl rfl ?_
        refine q_aload_n dX12_goOn_154 rfl rfl ?_
        refine q_getR (ci := 12) (k := 27) dX12_goOn_155 rfl (by decide) rfl tw1210 (by decide) qs188 qw188_27 (by decide) ?_
        refine q_iload_n dX12_goOn_158 rfl rfl ?_
        refine qx_iald (v := (mem 202 v2)) dX12_goOn_159 qs202 (o2 c1) (q_up_c (by decide)) ?_
        refine q_iload dX12_goOn_160 rfl ?_
        refine qx_isub dX12_goOn_162 (o6 c1 c2 c3).2.1 ?_
        refine qx_iadd dX12_goOn_163 (o6 c1 c2 c3).2.2.1 ?_
        refine qx_istore_n (L' := [(2, 188), (0, (v1 + ((mem 202 v2) - (min (mem 202 v2) ((mem 189 (mem 194 v2)) - (mem 207 (mem 194 v2))))))), (0, v2), (0, (mem 194 v2)), (0, (min (mem 202 v2) ((mem 189 (mem 194 v2)) - (mem 207 (mem 194 v2)))))]) dX12_goOn_164 rfl rfl rfl rfl ?_
        refine qx_iinc (L' := [(2, 188), (0, (v1 + ((mem 202 v2) - (min (mem 202 v2) ((mem 189 (mem 194 v2)) - (mem 207 (mem 194 v2))))))), (0, (v2 + 1)), (0, (mem 194 v2)), (0, (min (mem 202 v2) ((mem 189 (mem 194 v2)) - (mem 207 (mem 194 v2)))))]) dX12_goOn_165 rfl rfl rfl (o6 c1 c2 c3).2.2.2 rfl ?_
        refine q_goto (tgt := 89) dX12_goOn_168 (by decide) ?_
        refine q_kill (L' := [(2, 188), (0, (v1 + ((mem 202 v2) - (min (mem 202 v2) ((mem 189 (mem 194 v2)) - (mem 207 (mem 194 v2))))))), (0, (v2 + 1)), (4, 0), (0, (min (mem 202 v2) ((mem 189 (mem 194 v2)) - (mem 207 (mem 194 v2)))))]) 3 rfl ?_
        refine q_kill (L' := [(2, 188), (0, (v1 + ((mem 202 v2) - (min (mem 202 v2) ((mem 189 (mem 194 v2)) - (mem 207 (mem 194 v2))))))), (0, (v2 + 1)), (4, 0), (4, 0)]) 4 rfl ?_
        exact l7 c1 c2 c3
    · skip
      refine qx_iconst dX12_goOn_109 rfl rfl ?_
      refine q_goto (tgt := 135) dX12_goOn_110 (by decide) ?_
      refine qx_istore (L' := [(2, 188), (0, v1), (0, v2), (0, (mem 194 v2)), (0, 0)]) dX12_goOn_135 rfl rfl rfl ?_
      refine q_iload dX12_goOn_137 rfl ?_
      refine qx_if_le (tgt := 153) dX12_goOn_139 (by decide) (fun _ => ?_) (fun z => absurd z (by decide))
      refine q_iload_n dX12_goOn_153 rfl rfl ?_
      refine q_aload_n dX12_goOn_154 rfl rfl ?_
      refine q_getR (ci := 12) (k := 27) dX12_goOn_155 rfl (by decide) rfl tw1210 (by decide) qs188 qw188_27 (by decide) ?_
      refine q_iload_n dX12_goOn_158 rfl rfl ?_
      refine qx_iald (v := (mem 202 v2)) dX12_goOn_159 qs202 (o2 c1) rfl ?_
      refine q_iload dX12_goOn_160 rfl ?_
      refine qx_isub dX12_goOn_162 (o8 c1 c2).1 ?_
      refine qx_iadd dX12_goOn_163 (o8 c1 c2).2.1 ?_
      refine qx_istore_n (L' := [(2, 188), (0, (v1 + ((mem 202 v2) - 0))), (0, v2), (0, (mem 194 v2)), (0, 0)]) dX12_goOn_164 rfl rfl rfl rfl ?_
      refine qx_iinc (L' := [(2, 188), (0, (v1 + ((mem 202 v2) - 0))), (0, (v2 + 1)), (0, (mem 194 v2)), (0, 0)]) dX12_goOn_165 rfl rfl rfl (o8 c1 c2).2.2 rfl ?_
      refine q_goto (tgt := 89) dX12_goOn_168 (by decide) ?_
      refine q_kill (L' := [(2, 188), (0, (v1 + ((mem 202 v2) - 0))), (0, (v2 + 1)), (4, 0), (0, 0)]) 3 rfl ?_
      refine q_kill (L' := [(2, 188), (0, (v1 + ((mem 202 v2) - 0))), (0, (v2 + 1)), (4, 0), (4, 0)]) 4 rfl ?_
      exact l9 c1 c2
theorem bkX12_goOn_173 {b : Int} {mem : qm} {Q : Int → qm → Prop}
    {v1 v2 : Int}
    (l1 : (mem 188 0) ≤ v2 → Q v1 mem)
    (o2 : v2 < (mem 188 0) → (0 ≤ v2 ∧ v2 < 9) ∧ q_in32 ((mem 208 v2) - 1) ∧ q_in32 (v2 + 1))
    (l3 : v2 < (mem 188 0) → q_At yX12_goOn cX12_goOn 5 (some .int) 1 0 0 (qK (q_rb b) Q) 173 [(2, 188), (0, v1), (0, (v2 + 1)), (4, 0), (4, 0)] [] (q_sh0, q_rb b, (q_up mem 208 v2 (max 0 ((mem 208 v2) - 1))))) :
    q_At yX12_goOn cX12_goOn 5 (some .int) 1 0 0 (qK (q_rb b) Q) 173 [(2, 188), (0, v1), (0, v2), (4, 0), (4, 0)] [] (q_sh0, q_rb b, mem) := by
  refine q_iload_n dX12_goOn_173 rfl rfl ?_
  refine q_aload_n dX12_goOn_174 rfl rfl ?_
  refine qx_getI (ci := 12) (k := 0) (v := (mem 188 0)) dX12_goOn_175 rfl rfl rfl tw1183 rfl qs188 rfl ?_
  refine qx_icmp_ge (tgt := 205) dX12_goOn_178 (by decide) (fun c1 => ?_) (fun c1 => ?_)
  · skip
    refine q_iload_n dX12_goOn_205 rfl rfl ?_
    exact q_iret dX12_goOn_206 (qK_i (l1 c1))
  · skip
    refine q_aload_n dX12_goOn_181 rfl rfl ?_
    refine q_getR (ci := 12) (k := 34) dX12_goOn_182 rfl (by decide) rfl tw1217 (by decide) qs188 qw188_34 (by decide) ?_
    refine q_iload_n dX12_goOn_185 rfl rfl ?_
    refine qx_iconst dX12_goOn_186 rfl rfl ?_
    refine q_aload_n dX12_goOn_187 rfl rfl ?_
    refine q_getR (ci := 12) (k := 34) dX12_goOn_188 rfl (by decide) rfl tw1217 (by decide) qs188 qw188_34 (by decide) ?_
    refine q_iload_n dX12_goOn_191 rfl rfl ?_
    refine qx_iald (v := (mem 208 v2)) dX12_goOn_192 qs208 (o2 c1).1 rfl ?_
    refine qx_iconst dX12_goOn_193 rfl rfl ?_
    refine qx_isub dX12_goOn_194 (o2 c1).2.1 ?_
    refine q_max dX12_goOn_195 tw1458 tw597 tw15 tw598 (by decide) (Nat.le_of_ble_eq_true rfl) ?_
    refine q_iast dX12_goOn_198 qs208 ((o2 c1).1).1 ((o2 c1).1).2 ?_
    refine qx_iinc (L' := [(2, 188), (0, v1), (0, (v2 + 1)), (4, 0), (4, 0)]) dX12_goOn_199 rfl rfl rfl (o2 c1).2.2 rfl ?_
    refine q_goto (tgt := 173) dX12_goOn_202 (by decide) ?_
    exact l3 c1
theorem dX12_goOn__0 : decode cX12_goOn_ 0 = .ok (.iconst 0, 1) := by decide +kernel
theorem dX12_goOn__1 : decode cX12_goOn_ 1 = .ok (.istore_n 2, 1) := by decide +kernel
theorem dX12_goOn__2 : decode cX12_goOn_ 2 = .ok (.iconst 0, 1) := by decide +kernel
theorem dX12_goOn__3 : decode cX12_goOn_ 3 = .ok (.istore_n 3, 1) := by decide +kernel
theorem dX12_goOn__4 : decode cX12_goOn_ 4 = .ok (.iload_n 3, 1) := by decide +kernel
theorem dX12_goOn__5 : decode cX12_goOn_ 5 = .ok (.iload_n 1, 1) := by decide +kernel
theorem dX12_goOn__6 : decode cX12_goOn_ 6 = .ok (.if_icmp .ge 16, 3) := by decide +kernel
theorem dX12_goOn__9 : decode cX12_goOn_ 9 = .ok (.iload_n 2, 1) := by decide +kernel
theorem dX12_goOn__10 : decode cX12_goOn_ 10 = .ok (.aload_n 0, 1) := by decide +kernel
theorem dX12_goOn__11 : decode cX12_goOn_ 11 = .ok (.invokevirtual 309, 3) := by decide +kernel
theorem dX12_goOn__14 : decode cX12_goOn_ 14 = .ok (.iadd, 1) := by decide +kernel
theorem dX12_goOn__15 : decode cX12_goOn_ 15 = .ok (.istore_n 2, 1) := by decide +kernel
theorem dX12_goOn__16 : decode cX12_goOn_ 16 = .ok (.iinc 3 1, 3) := by decide +kernel
theorem dX12_goOn__19 : decode cX12_goOn_ 19 = .ok (.goto (-15), 3) := by decide +kernel
theorem dX12_goOn__22 : decode cX12_goOn_ 22 = .ok (.iload_n 2, 1) := by decide +kernel
theorem dX12_goOn__23 : decode cX12_goOn_ 23 = .ok (.ireturn, 1) := by decide +kernel
theorem bkX12_goOn__0 {b : Int} {mem : qm} {Q : Int → qm → Prop}
    {n : Int}
    (l1 : q_At yX12_goOn_ cX12_goOn_ 4 (some .int) 2 0 0 (qK (q_rb b) Q) 4 [(2, 188), (0, n), (0, 0), (0, 0)] [] (q_sh0, q_rb b, mem)) :
    q_At yX12_goOn_ cX12_goOn_ 4 (some .int) 2 0 0 (qK (q_rb b) Q) 0 [(2, 188), (0, n), (4, 0), (4, 0)] [] (q_sh0, q_rb b, mem) := by
  refine qx_iconst dX12_goOn__0 rfl rfl ?_
  refine qx_istore_n (L' := [(2, 188), (0, n), (0, 0), (4, 0)]) dX12_goOn__1 rfl rfl rfl rfl ?_
  refine qx_iconst dX12_goOn__2 rfl rfl ?_
  refine qx_istore_n (L' := [(2, 188), (0, n), (0, 0), (0, 0)]) dX12_goOn__3 rfl rfl rfl rfl ?_
  exact l1
theorem bkX12_goOn__4 {b : Int} {mem : qm} {Q : Int → qm → Prop}
    {n v2 v3 : Int}
    (l1 : n ≤ v3 → Q v2 mem)
    {P2 : Int → qm → Prop}
    (l2 : v3 < n → q_Ev yX12_goOn cX12_goOn 5 (some .int) 1 0 0 [(2, 188)] (q_sh0, q_rb b, mem) (qK (q_rb b) (P2)))
    (o3 : v3 < n → ∀ (r2 : Int), ∀ (m2 : qm), P2 r2 m2 → q_in32 r2 → q_in32 (v2 + r2) ∧ q_in32 (v3 + 1))
    (l4 : v3 < n → ∀ (r2 : Int), ∀ (m2 : qm), P2 r2 m2 → q_in32 r2 → q_At yX12_goOn_ cX12_goOn_ 4 (some .int) 2 0 0 (qK (q_rb b) Q) 4 [(2, 188), (0, n), (0, (v2 + r2)), (0, (v3 + 1))] [] (q_sh0, q_rb b, m2)) :
    q_At yX12_goOn_ cX12_goOn_ 4 (some .int) 2 0 0 (qK (q_rb b) Q) 4 [(2, 188), (0, n), (0, v2), (0, v3)] [] (q_sh0, q_rb b, mem) := by
  refine q_iload_n dX12_goOn__4 rfl rfl ?_
  refine q_iload_n dX12_goOn__5 rfl rfl ?_
  refine qx_icmp_ge (tgt := 22) dX12_goOn__6 (by decide) (fun c1 => ?_) (fun c1 => ?_)
  · skip
    refine q_iload_n dX12_goOn__22 rfl rfl ?_
    exact q_iret dX12_goOn__23 (qK_i (l1 c1))
  · skip
    refine q_iload_n dX12_goOn__9 rfl rfl ?_
    refine q_aload_n dX12_goOn__10 rfl rfl ?_
    refine qx_invV (ci := 12) [] [(2, 188), (0, v2)] rfl qM_X12_goOn dX12_goOn__11 tw1567 rfl qs188 rfl rfl rfl rfl (l2 c1) (fun r2 m2 p2 q2 => ?_)
    refine qx_iadd dX12_goOn__14 (o3 c1 r2 m2 p2 q2).1 ?_
    refine qx_istore_n (L' := [(2, 188), (0, n), (0, (v2 + r2)), (0, v3)]) dX12_goOn__15 rfl rfl rfl rfl ?_
    refine qx_iinc (L' := [(2, 188), (0, n), (0, (v2 + r2)), (0, (v3 + 1))]) dX12_goOn__16 rfl rfl rfl (o3 c1 r2 m2 p2 q2).2 rfl ?_
    refine q_goto (tgt := 4) dX12_goOn__19 (by decide) ?_
    exact l4 c1 r2 m2 p2 q2
theorem dX12_isMoving_0 : decode cX12_isMoving 0 = .ok (.iconst 0, 1) := by decide +kernel
theorem dX12_isMoving_1 : decode cX12_isMoving 1 = .ok (.istore_n 1, 1) := by decide +kernel
theorem dX12_isMoving_2 : decode cX12_isMoving 2 = .ok (.iload_n 1, 1) := by decide +kernel
theorem dX12_isMoving_3 : decode cX12_isMoving 3 = .ok (.aload_n 0, 1) := by decide +kernel
theorem dX12_isMoving_4 : decode cX12_isMoving 4 = .ok (.getfield 134, 3) := by decide +kernel
theorem dX12_isMoving_7 : decode cX12_isMoving 7 = .ok (.if_icmp .ge 29, 3) := by decide +kernel
theorem dX12_isMoving_10 : decode cX12_isMoving 10 = .ok (.aload_n 0, 1) := by decide +kernel
theorem dX12_isMoving_11 : decode cX12_isMoving 11 = .ok (.getfield 78, 3) := by decide +kernel
theorem dX12_isMoving_14 : decode cX12_isMoving 14 = .ok (.iload_n 1, 1) := by decide +kernel
theorem dX12_isMoving_15 : decode cX12_isMoving 15 = .ok (.iaload, 1) := by decide +kernel
theorem dX12_isMoving_16 : decode cX12_isMoving 16 = .ok (.ifCond .le 14, 3) := by decide +kernel
theorem dX12_isMoving_19 : decode cX12_isMoving 19 = .ok (.aload_n 0, 1) := by decide +kernel
theorem dX12_isMoving_20 : decode cX12_isMoving 20 = .ok (.getfield 72, 3) := by decide +kernel
theorem dX12_isMoving_23 : decode cX12_isMoving 23 = .ok (.iload_n 1, 1) := by decide +kernel
theorem dX12_isMoving_24 : decode cX12_isMoving 24 = .ok (.iaload, 1) := by decide +kernel
theorem dX12_isMoving_25 : decode cX12_isMoving 25 = .ok (.ifCond .le 5, 3) := by decide +kernel
theorem dX12_isMoving_28 : decode cX12_isMoving 28 = .ok (.iconst 1, 1) := by decide +kernel
theorem dX12_isMoving_29 : decode cX12_isMoving 29 = .ok (.ireturn, 1) := by decide +kernel
theorem dX12_isMoving_30 : decode cX12_isMoving 30 = .ok (.iinc 1 1, 3) := by decide +kernel
theorem dX12_isMoving_33 : decode cX12_isMoving 33 = .ok (.goto (-31), 3) := by decide +kernel
theorem dX12_isMoving_36 : decode cX12_isMoving 36 = .ok (.iconst 0, 1) := by decide +kernel
theorem dX12_isMoving_37 : decode cX12_isMoving 37 = .ok (.ireturn, 1) := by decide +kernel
theorem bkX12_isMoving_0 {b : Int} {mem : qm} {Q : Int → qm → Prop}
    (l1 : q_At yX12_isMoving cX12_isMoving 2 (some .boolean) 1 0 0 (qK (q_rb b) Q) 2 [(2, 188), (0, 0)] [] (q_sh0, q_rb b, mem)) :
    q_At yX12_isMoving cX12_isMoving 2 (some .boolean) 1 0 0 (qK (q_rb b) Q) 0 [(2, 188), (4, 0)] [] (q_sh0, q_rb b, mem) := by
  refine qx_iconst dX12_isMoving_0 rfl rfl ?_
  refine qx_istore_n (L' := [(2, 188), (0, 0)]) dX12_isMoving_1 rfl rfl rfl rfl ?_
  exact l1
theorem bkX12_isMoving_2 {b : Int} {mem : qm} {Q : Int → qm → Prop}
    {v1 : Int}
    (l1 : (mem 188 0) ≤ v1 → Q 0 mem)
    (o2 : v1 < (mem 188 0) → (0 ≤ v1 ∧ v1 < 9))
    (o3 : v1 < (mem 188 0) → (mem 209 v1) ≤ 0 → q_in32 (v1 + 1))
    (l4 : v1 < (mem 188 0) → (mem 209 v1) ≤ 0 → q_At yX12_isMoving cX12_isMoving 2 (some .boolean) 1 0 0 (qK (q_rb b) Q) 2 [(2, 188), (0, (v1 + 1))] [] (q_sh0, q_rb b, mem))
    (o5 : v1 < (mem 188 0) → 0 < (mem 209 v1) → (mem 207 v1) ≤ 0 → q_in32 (v1 + 1))
    (l6 : v1 < (mem 188 0) → 0 < (mem 209 v1) → (mem 207 v1) ≤ 0 → q_At yX12_isMoving cX12_isMoving 2 (some .boolean) 1 0 0 (qK (q_rb b) Q) 2 [(2, 188), (0, (v1 + 1))] [] (q_sh0, q_rb b, mem))
    (l7 : v1 < (mem 188 0) → 0 < (mem 209 v1) → 0 < (mem 207 v1) → Q 1 mem) :
    q_At yX12_isMoving cX12_isMoving 2 (some .boolean) 1 0 0 (qK (q_rb b) Q) 2 [(2, 188), (0, v1)] [] (q_sh0, q_rb b, mem) := by
  refine q_iload_n dX12_isMoving_2 rfl rfl ?_
  refine q_aload_n dX12_isMoving_3 rfl rfl ?_
  refine qx_getI (ci := 12) (k := 0) (v := (mem 188 0)) dX12_isMoving_4 rfl rfl rfl tw1183 rfl qs188 rfl ?_
  refine qx_icmp_ge (tgt := 36) dX12_isMoving_7 (by decide) (fun c1 => ?_) (fun c1 => ?_)
  · skip
    refine qx_iconst dX12_isMoving_36 rfl rfl ?_
    exact q_zret dX12_isMoving_37 (by decide) (qK_i (l1 c1))
  · skip
    refine q_aload_n dX12_isMoving_10 rfl rfl ?_
    refine q_getR (ci := 12) (k := 35) dX12_isMoving_11 rfl (by decide) rfl tw1218 (by decide) qs188 qw188_35 (by decide) ?_
    refine q_iload_n dX12_isMoving_14 rfl rfl ?_
    refine qx_iald (v := (mem 209 v1)) dX12_isMoving_15 qs209 (o2 c1) rfl ?_
    refine qx_if_le (tgt := 30) dX12_isMoving_16 (by decide) (fun c2 => ?_) (fun c2 => ?_)
    · skip
      refine qx_iinc (L' := [(2, 188), (0, (v1 + 1))]) dX12_isMoving_30 rfl rfl rfl (o3 c1 c2) rfl ?_
      refine q_goto (tgt := 2) dX12_isMoving_33 (by decide) ?_
      exact l4 c1 c2
    · skip
      refine q_aload_n dX12_isMoving_19 rfl rfl ?_
      refine q_getR (ci := 12) (k := 33) dX12_isMoving_20 rfl (by decide) rfl tw1216 (by decide) qs188 qw188_33 (by decide) ?_
      refine q_iload_n dX12_isMoving_23 rfl rfl ?_
      refine qx_iald (v := (mem 207 v1)) dX12_isMoving_24 qs207 (o2 c1) rfl ?_
      refine qx_if_le (tgt := 30) dX12_isMoving_25 (by decide) (fun c3 => ?_) (fun c3 => ?_)
      · skip
        refine qx_iinc (L' := [(2, 188), (0, (v1 + 1))]) dX12_isMoving_30 rfl rfl rfl (o5 c1 c2 c3) rfl ?_
        refine q_goto (tgt := 2) dX12_isMoving_33 (by decide) ?_
        exact l6 c1 c2 c3
      · skip
        refine qx_iconst dX12_isMoving_28 rfl rfl ?_
        exact q_zret dX12_isMoving_29 (by decide) (qK_i (l7 c1 c2 c3))
