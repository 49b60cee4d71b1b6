theorem q_zc {f : qm} {n : Nat} {v c i : Int} (h : c ≠ (n : Int)) : q_z f n v c i = f c i := by unfold q_z; rw [if_neg h]
theorem dX11_init_0 : decode cX11_init 0 = .ok (.aload_n 0, 1) := by decide +kernel
theorem dX11_init_1 : decode cX11_init 1 = .ok (.invokespecial 1, 3) := by decide +kernel
theorem dX11_init_4 : decode cX11_init 4 = .ok (.aload_n 0, 1) := by decide +kernel
theorem dX11_init_5 : decode cX11_init 5 = .ok (.new 7, 3) := by decide +kernel
theorem dX11_init_8 : decode cX11_init 8 = .ok (.dup, 1) := by decide +kernel
theorem dX11_init_9 : decode cX11_init 9 = .ok (.invokespecial 9, 3) := by decide +kernel
theorem dX11_init_12 : decode cX11_init 12 = .ok (.putfield 10, 3) := by decide +kernel
theorem dX11_init_15 : decode cX11_init 15 = .ok (.aload_n 0, 1) := by decide +kernel
theorem dX11_init_16 : decode cX11_init 16 = .ok (.new 16, 3) := by decide +kernel
theorem dX11_init_19 : decode cX11_init 19 = .ok (.dup, 1) := by decide +kernel
theorem dX11_init_20 : decode cX11_init 20 = .ok (.invokespecial 18, 3) := by decide +kernel
theorem dX11_init_23 : decode cX11_init 23 = .ok (.putfield 19, 3) := by decide +kernel
theorem dX11_init_26 : decode cX11_init 26 = .ok (.aload_n 0, 1) := by decide +kernel
theorem dX11_init_27 : decode cX11_init 27 = .ok (.new 16, 3) := by decide +kernel
theorem dX11_init_30 : decode cX11_init 30 = .ok (.dup, 1) := by decide +kernel
theorem dX11_init_31 : decode cX11_init 31 = .ok (.invokespecial 18, 3) := by decide +kernel
theorem dX11_init_34 : decode cX11_init 34 = .ok (.putfield 23, 3) := by decide +kernel
theorem dX11_init_37 : decode cX11_init 37 = .ok (.aload_n 0, 1) := by decide +kernel
theorem dX11_init_38 : decode cX11_init 38 = .ok (.new 26, 3) := by decide +kernel
theorem dX11_init_41 : decode cX11_init 41 = .ok (.dup, 1) := by decide +kernel
theorem dX11_init_42 : decode cX11_init 42 = .ok (.aload_n 0, 1) := by decide +kernel
theorem dX11_init_43 : decode cX11_init 43 = .ok (.getfield 10, 3) := by decide +kernel
theorem dX11_init_46 : decode cX11_init 46 = .ok (.invokespecial 28, 3) := by decide +kernel
theorem dX11_init_49 : decode cX11_init 49 = .ok (.putfield 31, 3) := by decide +kernel
theorem dX11_init_52 : decode cX11_init 52 = .ok (.aload_n 0, 1) := by decide +kernel
theorem dX11_init_53 : decode cX11_init 53 = .ok (.new 35, 3) := by decide +kernel
theorem dX11_init_56 : decode cX11_init 56 = .ok (.dup, 1) := by decide +kernel
theorem dX11_init_57 : decode cX11_init 57 = .ok (.aload_n 0, 1) := by decide +kernel
theorem dX11_init_58 : decode cX11_init 58 = .ok (.getfield 10, 3) := by decide +kernel
theorem dX11_init_61 : decode cX11_init 61 = .ok (.invokespecial 37, 3) := by decide +kernel
theorem dX11_init_64 : decode cX11_init 64 = .ok (.putfield 38, 3) := by decide +kernel
theorem dX11_init_67 : decode cX11_init 67 = .ok (.aload_n 0, 1) := by decide +kernel
theorem dX11_init_68 : decode cX11_init 68 = .ok (.new 42, 3) := by decide +kernel
theorem dX11_init_71 : decode cX11_init 71 = .ok (.dup, 1) := by decide +kernel
theorem dX11_init_72 : decode cX11_init 72 = .ok (.invokespecial 44, 3) := by decide +kernel
theorem dX11_init_75 : decode cX11_init 75 = .ok (.putfield 45, 3) := by decide +kernel
theorem dX11_init_78 : decode cX11_init 78 = .ok (.aload_n 0, 1) := by decide +kernel
theorem dX11_init_79 : decode cX11_init 79 = .ok (.iconst 2, 1) := by decide +kernel
theorem dX11_init_80 : decode cX11_init 80 = .ok (.anewarray 16, 3) := by decide +kernel
theorem dX11_init_83 : decode cX11_init 83 = .ok (.putfield 49, 3) := by decide +kernel
theorem dX11_init_86 : decode cX11_init 86 = .ok (.aload_n 0, 1) := by decide +kernel
theorem dX11_init_87 : decode cX11_init 87 = .ok (.iconst 2, 1) := by decide +kernel
theorem dX11_init_88 : decode cX11_init 88 = .ok (.newarray .int, 2) := by decide +kernel
theorem dX11_init_90 : decode cX11_init 90 = .ok (.putfield 53, 3) := by decide +kernel
theorem dX11_init_93 : decode cX11_init 93 = .ok (.aload_n 0, 1) := by decide +kernel
theorem dX11_init_94 : decode cX11_init 94 = .ok (.new 57, 3) := by decide +kernel
theorem dX11_init_97 : decode cX11_init 97 = .ok (.dup, 1) := by decide +kernel
theorem dX11_init_98 : decode cX11_init 98 = .ok (.invokespecial 59, 3) := by decide +kernel
theorem dX11_init_101 : decode cX11_init 101 = .ok (.putfield 60, 3) := by decide +kernel
theorem dX11_init_104 : decode cX11_init 104 = .ok (.aload_n 0, 1) := by decide +kernel
theorem dX11_init_105 : decode cX11_init 105 = .ok (.new 64, 3) := by decide +kernel
theorem dX11_init_108 : decode cX11_init 108 = .ok (.dup, 1) := by decide +kernel
theorem dX11_init_109 : decode cX11_init 109 = .ok (.aload_n 0, 1) := by decide +kernel
theorem dX11_init_110 : decode cX11_init 110 = .ok (.getfield 60, 3) := by decide +kernel
theorem dX11_init_113 : decode cX11_init 113 = .ok (.aload_n 0, 1) := by decide +kernel
theorem dX11_init_114 : decode cX11_init 114 = .ok (.getfield 10, 3) := by decide +kernel
theorem dX11_init_117 : decode cX11_init 117 = .ok (.aload_n 0, 1) := by decide +kernel
theorem dX11_init_118 : decode cX11_init 118 = .ok (.getfield 19, 3) := by decide +kernel
theorem dX11_init_121 : decode cX11_init 121 = .ok (.invokespecial 66, 3) := by decide +kernel
theorem dX11_init_124 : decode cX11_init 124 = .ok (.putfield 69, 3) := by decide +kernel
theorem dX11_init_127 : decode cX11_init 127 = .ok (.aload_n 0, 1) := by decide +kernel
theorem dX11_init_128 : decode cX11_init 128 = .ok (.new 73, 3) := by decide +kernel
theorem dX11_init_131 : decode cX11_init 131 = .ok (.dup, 1) := by decide +kernel
theorem dX11_init_132 : decode cX11_init 132 = .ok (.invokespecial 75, 3) := by decide +kernel
theorem dX11_init_135 : decode cX11_init 135 = .ok (.putfield 76, 3) := by decide +kernel
theorem dX11_init_138 : decode cX11_init 138 = .ok (.aload_n 0, 1) := by decide +kernel
theorem dX11_init_139 : decode cX11_init 139 = .ok (.new 80, 3) := by decide +kernel
theorem dX11_init_142 : decode cX11_init 142 = .ok (.dup, 1) := by decide +kernel
theorem dX11_init_143 : decode cX11_init 143 = .ok (.invokespecial 82, 3) := by decide +kernel
theorem dX11_init_146 : decode cX11_init 146 = .ok (.putfield 83, 3) := by decide +kernel
theorem dX11_init_149 : decode cX11_init 149 = .ok (.aload_n 0, 1) := by decide +kernel
theorem dX11_init_150 : decode cX11_init 150 = .ok (.new 87, 3) := by decide +kernel
theorem dX11_init_153 : decode cX11_init 153 = .ok (.dup, 1) := by decide +kernel
theorem dX11_init_154 : decode cX11_init 154 = .ok (.invokespecial 89, 3) := by decide +kernel
theorem dX11_init_157 : decode cX11_init 157 = .ok (.putfield 90, 3) := by decide +kernel
theorem dX11_init_160 : decode cX11_init 160 = .ok (.aload_n 0, 1) := by decide +kernel
theorem dX11_init_161 : decode cX11_init 161 = .ok (.new 94, 3) := by decide +kernel
theorem dX11_init_164 : decode cX11_init 164 = .ok (.dup, 1) := by decide +kernel
theorem dX11_init_165 : decode cX11_init 165 = .ok (.aload_n 0, 1) := by decide +kernel
theorem dX11_init_166 : decode cX11_init 166 = .ok (.getfield 10, 3) := by decide +kernel
theorem dX11_init_169 : decode cX11_init 169 = .ok (.invokespecial 96, 3) := by decide +kernel
theorem dX11_init_172 : decode cX11_init 172 = .ok (.putfield 97, 3) := by decide +kernel
theorem dX11_init_175 : decode cX11_init 175 = .ok (.aload_n 0, 1) := by decide +kernel
theorem dX11_init_176 : decode cX11_init 176 = .ok (.bipush 90, 2) := by decide +kernel
theorem dX11_init_178 : decode cX11_init 178 = .ok (.newarray .int, 2) := by decide +kernel
theorem dX11_init_180 : decode cX11_init 180 = .ok (.putfield 101, 3) := by decide +kernel
theorem dX11_init_183 : decode cX11_init 183 = .ok (.aload_n 0, 1) := by decide +kernel
theorem dX11_init_184 : decode cX11_init 184 = .ok (.bipush 10, 2) := by decide +kernel
theorem dX11_init_186 : decode cX11_init 186 = .ok (.newarray .int, 2) := by decide +kernel
theorem dX11_init_188 : decode cX11_init 188 = .ok (.putfield 104, 3) := by decide +kernel
theorem dX11_init_191 : decode cX11_init 191 = .ok (.iconst 0, 1) := by decide +kernel
theorem dX11_init_192 : decode cX11_init 192 = .ok (.istore_n 1, 1) := by decide +kernel
theorem dX11_init_193 : decode cX11_init 193 = .ok (.iload_n 1, 1) := by decide +kernel
theorem dX11_init_194 : decode cX11_init 194 = .ok (.iconst 2, 1) := by decide +kernel
theorem dX11_init_195 : decode cX11_init 195 = .ok (.if_icmp .ge 29, 3) := by decide +kernel
theorem dX11_init_198 : decode cX11_init 198 = .ok (.aload_n 0, 1) := by decide +kernel
theorem dX11_init_199 : decode cX11_init 199 = .ok (.getfield 49, 3) := by decide +kernel
theorem dX11_init_202 : decode cX11_init 202 = .ok (.iload_n 1, 1) := by decide +kernel
theorem dX11_init_203 : decode cX11_init 203 = .ok (.new 16, 3) := by decide +kernel
theorem dX11_init_206 : decode cX11_init 206 = .ok (.dup, 1) := by decide +kernel
theorem dX11_init_207 : decode cX11_init 207 = .ok (.invokespecial 18, 3) := by decide +kernel
theorem dX11_init_210 : decode cX11_init 210 = .ok (.aastore, 1) := by decide +kernel
theorem dX11_init_211 : decode cX11_init 211 = .ok (.aload_n 0, 1) := by decide +kernel
theorem dX11_init_212 : decode cX11_init 212 = .ok (.getfield 53, 3) := by decide +kernel
theorem dX11_init_215 : decode cX11_init 215 = .ok (.iload_n 1, 1) := by decide +kernel
theorem dX11_init_216 : decode cX11_init 216 = .ok (.iconst (-1), 1) := by decide +kernel
theorem dX11_init_217 : decode cX11_init 217 = .ok (.iastore, 1) := by decide +kernel
theorem dX11_init_218 : decode cX11_init 218 = .ok (.iinc 1 1, 3) := by decide +kernel
theorem dX11_init_221 : decode cX11_init 221 = .ok (.goto (-28), 3) := by decide +kernel
theorem dX11_init_224 : decode cX11_init 224 = .ok (.return_, 1) := by decide +kernel
theorem dX9_init_0 : decode cX9_init 0 = .ok (.aload_n 0, 1) := by decide +kernel
theorem dX9_init_1 : decode cX9_init 1 = .ok (.invokespecial 3, 3) := by decide +kernel
theorem dX9_init_4 : decode cX9_init 4 = .ok (.aload_n 0, 1) := by decide +kernel
theorem dX9_init_5 : decode cX9_init 5 = .ok (.bipush 9, 2) := by decide +kernel
theorem dX9_init_7 : decode cX9_init 7 = .ok (.newarray .int, 2) := by decide +kernel
theorem dX9_init_9 : decode cX9_init 9 = .ok (.putfield 9, 3) := by decide +kernel
theorem dX9_init_12 : decode cX9_init 12 = .ok (.aload_n 0, 1) := by decide +kernel
theorem dX9_init_13 : decode cX9_init 13 = .ok (.bipush 9, 2) := by decide +kernel
theorem dX9_init_15 : decode cX9_init 15 = .ok (.newarray .int, 2) := by decide +kernel
theorem dX9_init_17 : decode cX9_init 17 = .ok (.putfield 15, 3) := by decide +kernel
theorem dX9_init_20 : decode cX9_init 20 = .ok (.aload_n 0, 1) := by decide +kernel
theorem dX9_init_21 : decode cX9_init 21 = .ok (.bipush 9, 2) := by decide +kernel
theorem dX9_init_23 : decode cX9_init 23 = .ok (.newarray .int, 2) := by decide +kernel
theorem dX9_init_25 : decode cX9_init 25 = .ok (.putfield 18, 3) := by decide +kernel
theorem dX9_init_28 : decode cX9_init 28 = .ok (.return_, 1) := by decide +kernel
def ct2r (rf : qm) : qm := (q_up (q_z (q_up (q_z (q_up (q_z rf 2 (-1)) 1 0 2) 3 (-1)) 1 1 3) 4 (-1)) 1 2 4)
def ct2m (mem : qm) : qm := (q_z (q_z (q_z mem 2 0) 3 0) 4 0)
set_option maxRecDepth 20000 in
theorem ct2 {rf mem : qm} : q_Ev yX9_init cX9_init 1 none 1 3 27 [(2, 1)] ((q_sh0.take 2), rf, mem) (fun _ σ => σ = ((q_sh0.take 5), ct2r rf, ct2m mem)) := by
  refine q_enter (by decide +kernel) (by simp) (by decide) ?_
  show q_At yX9_init cX9_init 1 none 1 3 27 _ 0 [(2, 1)] [] ((q_sh0.take 2), rf, mem)
  refine q_aload_n dX9_init_0 rfl rfl ?_
  refine q_objInit dX9_init_1 tw35 tw28 tw29 (by decide) (Nat.le_of_ble_eq_true rfl) ?_
  refine q_aload_n dX9_init_4 rfl rfl ?_
  refine qx_bipush dX9_init_5 rfl rfl ?_
  refine qx_newI (kc := 2) (ks := 18) (nI := 2) (sh' := (q_sh0.take 3)) dX9_init_7 tw63 rfl rfl rfl rfl rfl rfl rfl ?_
  refine q_putRF (ci := 9) (k := 0) (ty := tyX9 0) dX9_init_9 rfl (by decide) rfl tw36 rfl rfl rfl (by decide) rfl (fun _ => ⟨rfl, rfl⟩) rfl ?_
  refine q_aload_n dX9_init_12 rfl rfl ?_
  refine qx_bipush dX9_init_13 rfl rfl ?_
  refine qx_newI (kc := 1) (ks := 9) (nI := 3) (sh' := (q_sh0.take 4)) dX9_init_15 tw63 rfl rfl rfl rfl rfl rfl rfl ?_
  refine q_putRF (ci := 9) (k := 1) (ty := tyX9 1) dX9_init_17 rfl (by decide) rfl tw42 rfl rfl rfl (by decide) rfl (fun _ => ⟨rfl, rfl⟩) rfl ?_
  refine q_aload_n dX9_init_20 rfl rfl ?_
  refine qx_bipush dX9_init_21 rfl rfl ?_
  refine qx_newI (kc := 0) (ks := 0) (nI := 4) (sh' := (q_sh0.take 5)) dX9_init_23 tw63 rfl rfl rfl rfl rfl rfl rfl ?_
  refine q_putRF (ci := 9) (k := 2) (ty := tyX9 2) dX9_init_25 rfl (by decide) rfl tw46 rfl rfl rfl (by decide) rfl (fun _ => ⟨rfl, rfl⟩) rfl ?_
  exact q_vret dX9_init_28 rfl
theorem ct2r_c {rf : qm} {c i : Int} (h : c < 1 ∧ 0 ≤ c) : ct2r rf c i = rf c i := by
  exact ((q_up_c (by omega)).trans ((q_zc (by omega)).trans ((q_up_c (by omega)).trans ((q_zc (by omega)).trans ((q_up_c (by omega)).trans (q_zc (by omega)))))))
theorem dX7_init_0 : decode cX7_init 0 = .ok (.aload_n 0, 1) := by decide +kernel
theorem dX7_init_1 : decode cX7_init 1 = .ok (.invokespecial 3, 3) := by decide +kernel
theorem dX7_init_4 : decode cX7_init 4 = .ok (.aload_n 0, 1) := by decide +kernel
theorem dX7_init_5 : decode cX7_init 5 = .ok (.sipush 540, 3) := by decide +kernel
theorem dX7_init_8 : decode cX7_init 8 = .ok (.newarray .int, 2) := by decide +kernel
theorem dX7_init_10 : decode cX7_init 10 = .ok (.putfield 9, 3) := by decide +kernel
theorem dX7_init_13 : decode cX7_init 13 = .ok (.aload_n 0, 1) := by decide +kernel
theorem dX7_init_14 : decode cX7_init 14 = .ok (.bipush 9, 2) := by decide +kernel
theorem dX7_init_16 : decode cX7_init 16 = .ok (.newarray .int, 2) := by decide +kernel
theorem dX7_init_18 : decode cX7_init 18 = .ok (.putfield 15, 3) := by decide +kernel
theorem dX7_init_21 : decode cX7_init 21 = .ok (.aload_n 0, 1) := by decide +kernel
theorem dX7_init_22 : decode cX7_init 22 = .ok (.bipush 9, 2) := by decide +kernel
theorem dX7_init_24 : decode cX7_init 24 = .ok (.newarray .int, 2) := by decide +kernel
theorem dX7_init_26 : decode cX7_init 26 = .ok (.putfield 18, 3) := by decide +kernel
theorem dX7_init_29 : decode cX7_init 29 = .ok (.aload_n 0, 1) := by decide +kernel
theorem dX7_init_30 : decode cX7_init 30 = .ok (.bipush 9, 2) := by decide +kernel
theorem dX7_init_32 : decode cX7_init 32 = .ok (.newarray .int, 2) := by decide +kernel
theorem dX7_init_34 : decode cX7_init 34 = .ok (.putfield 21, 3) := by decide +kernel
theorem dX7_init_37 : decode cX7_init 37 = .ok (.aload_n 0, 1) := by decide +kernel
theorem dX7_init_38 : decode cX7_init 38 = .ok (.bipush 9, 2) := by decide +kernel
theorem dX7_init_40 : decode cX7_init 40 = .ok (.newarray .int, 2) := by decide +kernel
theorem dX7_init_42 : decode cX7_init 42 = .ok (.putfield 24, 3) := by decide +kernel
theorem dX7_init_45 : decode cX7_init 45 = .ok (.aload_n 0, 1) := by decide +kernel
theorem dX7_init_46 : decode cX7_init 46 = .ok (.bipush 9, 2) := by decide +kernel
theorem dX7_init_48 : decode cX7_init 48 = .ok (.newarray .int, 2) := by decide +kernel
theorem dX7_init_50 : decode cX7_init 50 = .ok (.putfield 27, 3) := by decide +kernel
theorem dX7_init_53 : decode cX7_init 53 = .ok (.aload_n 0, 1) := by decide +kernel
theorem dX7_init_54 : decode cX7_init 54 = .ok (.bipush 36, 2) := by decide +kernel
theorem dX7_init_56 : decode cX7_init 56 = .ok (.newarray .int, 2) := by decide +kernel
theorem dX7_init_58 : decode cX7_init 58 = .ok (.putfield 30, 3) := by decide +kernel
theorem dX7_init_61 : decode cX7_init 61 = .ok (.aload_n 0, 1) := by decide +kernel
theorem dX7_init_62 : decode cX7_init 62 = .ok (.bipush 7, 2) := by decide +kernel
theorem dX7_init_64 : decode cX7_init 64 = .ok (.newarray .int, 2) := by decide +kernel
theorem dX7_init_66 : decode cX7_init 66 = .ok (.putfield 33, 3) := by decide +kernel
theorem dX7_init_69 : decode cX7_init 69 = .ok (.return_, 1) := by decide +kernel
def ct3r (rf : qm) : qm := (q_up (q_z (q_up (q_z (q_up (q_z (q_up (q_z (q_up (q_z (q_up (q_z (q_up (q_z (q_up (q_z rf 6 (-1)) 5 0 6) 7 (-1)) 5 1 7) 8 (-1)) 5 2 8) 9 (-1)) 5 3 9) 10 (-1)) 5 4 10) 11 (-1)) 5 5 11) 12 (-1)) 5 6 12) 13 (-1)) 5 7 13)
def ct3m (mem : qm) : qm := (q_z (q_z (q_z (q_z (q_z (q_z (q_z (q_z mem 6 0) 7 0) 8 0) 9 0) 10 0) 11 0) 12 0) 13 0)
set_option maxRecDepth 20000 in
theorem ct3 {rf mem : qm} : q_Ev yX7_init cX7_init 1 none 1 8 628 [(2, 5)] ((q_sh0.take 6), rf, mem) (fun _ σ => σ = ((q_sh0.take 14), ct3r rf, ct3m mem)) := by
  refine q_enter (by decide +kernel) (by simp) (by decide) ?_
  show q_At yX7_init cX7_init 1 none 1 8 628 _ 0 [(2, 5)] [] ((q_sh0.take 6), rf, mem)
  refine q_aload_n dX7_init_0 rfl rfl ?_
  refine q_objInit dX7_init_1 tw69 tw28 tw29 (by decide) (Nat.le_of_ble_eq_true rfl) ?_
  refine q_aload_n dX7_init_4 rfl rfl ?_
  refine qx_sipush dX7_init_5 rfl rfl ?_
  refine qx_newI (kc := 7) (ks := 88) (nI := 6) (sh' := (q_sh0.take 7)) dX7_init_8 tw63 rfl rfl rfl rfl rfl rfl rfl ?_
  refine q_putRF (ci := 7) (k := 0) (ty := tyX7 0) dX7_init_10 rfl (by decide) rfl tw70 rfl rfl rfl (by decide) rfl (fun _ => ⟨rfl, rfl⟩) rfl ?_
  refine q_aload_n dX7_init_13 rfl rfl ?_
  refine qx_bipush dX7_init_14 rfl rfl ?_
  refine qx_newI (kc := 6) (ks := 79) (nI := 7) (sh' := (q_sh0.take 8)) dX7_init_16 tw63 rfl rfl rfl rfl rfl rfl rfl ?_
  refine q_putRF (ci := 7) (k := 1) (ty := tyX7 1) dX7_init_18 rfl (by decide) rfl tw71 rfl rfl rfl (by decide) rfl (fun _ => ⟨rfl, rfl⟩) rfl ?_
  refine q_aload_n dX7_init_21 rfl rfl ?_
  refine qx_bipush dX7_init_22 rfl rfl ?_
  refine qx_newI (kc := 5) (ks := 70) (nI := 8) (sh' := (q_sh0.take 9)) dX7_init_24 tw63 rfl rfl rfl rfl rfl rfl rfl ?_
  refine q_putRF (ci := 7) (k := 2) (ty := tyX7 2) dX7_init_26 rfl (by decide) rfl tw73 rfl rfl rfl (by decide) rfl (fun _ => ⟨rfl, rfl⟩) rfl ?_
  refine q_aload_n dX7_init_29 rfl rfl ?_
  refine qx_bipush dX7_init_30 rfl rfl ?_
  refine qx_newI (kc := 4) (ks := 61) (nI := 9) (sh' := (q_sh0.take 10)) dX7_init_32 tw63 rfl rfl rfl rfl rfl rfl rfl ?_
  refine q_putRF (ci := 7) (k := 3) (ty := tyX7 3) dX7_init_34 rfl (by decide) rfl tw79 rfl rfl rfl (by decide) rfl (fun _ => ⟨rfl, rfl⟩) rfl ?_
  refine q_aload_n dX7_init_37 rfl rfl ?_
  refine qx_bipush dX7_init_38 rfl rfl ?_
  refine qx_newI (kc := 3) (ks := 52) (nI := 10) (sh' := (q_sh0.take 11)) dX7_init_40 tw63 rfl rfl rfl rfl rfl rfl rfl ?_
  refine q_putRF (ci := 7) (k := 4) (ty := tyX7 4) dX7_init_42 rfl (by decide) rfl tw84 rfl rfl rfl (by decide) rfl (fun _ => ⟨rfl, rfl⟩) rfl ?_
  refine q_aload_n dX7_init_45 rfl rfl ?_
  refine qx_bipush dX7_init_46 rfl rfl ?_
  refine qx_newI (kc := 2) (ks := 43) (nI := 11) (sh' := (q_sh0.take 12)) dX7_init_48 tw63 rfl rfl rfl rfl rfl rfl rfl ?_
  refine q_putRF (ci := 7) (k := 5) (ty := tyX7 5) dX7_init_50 rfl (by decide) rfl tw89 rfl rfl rfl (by decide) rfl (fun _ => ⟨rfl, rfl⟩) rfl ?_
  refine q_aload_n dX7_init_53 rfl rfl ?_
  refine qx_bipush dX7_init_54 rfl rfl ?_
  refine qx_newI (kc := 1) (ks := 7) (nI := 12) (sh' := (q_sh0.take 13)) dX7_init_56 tw63 rfl rfl rfl rfl rfl rfl rfl ?_
  refine q_putRF (ci := 7) (k := 6) (ty := tyX7 6) dX7_init_58 rfl (by decide) rfl tw94 rfl rfl rfl (by decide) rfl (fun _ => ⟨rfl, rfl⟩) rfl ?_
  refine q_aload_n dX7_init_61 rfl rfl ?_
  refine qx_bipush dX7_init_62 rfl rfl ?_
  refine qx_newI (kc := 0) (ks := 0) (nI := 13) (sh' := (q_sh0.take 14)) dX7_init_64 tw63 rfl rfl rfl rfl rfl rfl rfl ?_
  refine q_putRF (ci := 7) (k := 7) (ty := tyX7 7) dX7_init_66 rfl (by decide) rfl tw98 rfl rfl rfl (by decide) rfl (fun _ => ⟨rfl, rfl⟩) rfl ?_
  exact q_vret dX7_init_69 rfl
theorem ct3r_c {rf : qm} {c i : Int} (h : c < 5 ∧ 0 ≤ c) : ct3r rf c i = rf c i := by
  exact ((q_up_c (by omega)).trans ((q_zc (by omega)).trans ((q_up_c (by omega)).trans ((q_zc (by omega)).trans ((q_up_c (by omega)).trans ((q_zc (by omega)).trans ((q_up_c (by omega)).trans ((q_zc (by omega)).trans ((q_up_c (by omega)).trans ((q_zc (by omega)).trans ((q_up_c (by omega)).trans ((q_zc (by omega)).trans ((q_up_c (by omega)).trans ((q_zc (by omega)).trans ((q_up_c (by omega)).trans (q_zc (by omega)))))))))))))))))
def ct4r (rf : qm) : qm := (q_up (q_z (q_up (q_z (q_up (q_z (q_up (q_z (q_up (q_z (q_up (q_z (q_up (q_z (q_up (q_z rf 15 (-1)) 14 0 15) 16 (-1)) 14 1 16) 17 (-1)) 14 2 17) 18 (-1)) 14 3 18) 19 (-1)) 14 4 19) 20 (-1)) 14 5 20) 21 (-1)) 14 6 21) 22 (-1)) 14 7 22)
def ct4m (mem : qm) : qm := (q_z (q_z (q_z (q_z (q_z (q_z (q_z (q_z mem 15 0) 16 0) 17 0) 18 0) 19 0) 20 0) 21 0) 22 0)
set_option maxRecDepth 20000 in
theorem ct4 {rf mem : qm} : q_Ev yX7_init cX7_init 1 none 1 8 628 [(2, 14)] ((q_sh0.take 15), rf, mem) (fun _ σ => σ = ((q_sh0.take 23), ct4r rf, ct4m mem)) := by
  refine q_enter (by decide +kernel) (by simp) (by decide) ?_
  show q_At yX7_init cX7_init 1 none 1 8 628 _ 0 [(2, 14)] [] ((q_sh0.take 15), rf, mem)
  refine q_aload_n dX7_init_0 rfl rfl ?_
  refine q_objInit dX7_init_1 tw69 tw28 tw29 (by decide) (Nat.le_of_ble_eq_true rfl) ?_
  refine q_aload_n dX7_init_4 rfl rfl ?_
  refine qx_sipush dX7_init_5 rfl rfl ?_
  refine qx_newI (kc := 7) (ks := 88) (nI := 15) (sh' := (q_sh0.take 16)) dX7_init_8 tw63 rfl rfl rfl rfl rfl rfl rfl ?_
  refine q_putRF (ci := 7) (k := 0) (ty := tyX7 0) dX7_init_10 rfl (by decide) rfl tw70 rfl rfl rfl (by decide) rfl (fun _ => ⟨rfl, rfl⟩) rfl ?_
  refine q_aload_n dX7_init_13 rfl rfl ?_
  refine qx_bipush dX7_init_14 rfl rfl ?_
  refine qx_newI (kc := 6) (ks := 79) (nI := 16) (sh' := (q_sh0.take 17)) dX7_init_16 tw63 rfl rfl rfl rfl rfl rfl rfl ?_
  refine q_putRF (ci := 7) (k := 1) (ty := tyX7 1) dX7_init_18 rfl (by decide) rfl tw71 rfl rfl rfl (by decide) rfl (fun _ => ⟨rfl, rfl⟩) rfl ?_
  refine q_aload_n dX7_init_21 rfl rfl ?_
  refine qx_bipush dX7_init_22 rfl rfl ?_
  refine qx_newI (kc := 5) (ks := 70) (nI := 17) (sh' := (q_sh0.take 18)) dX7_init_24 tw63 rfl rfl rfl rfl rfl rfl rfl ?_
  refine q_putRF (ci := 7) (k := 2) (ty := tyX7 2) dX7_init_26 rfl (by decide) rfl tw73 rfl rfl rfl (by decide) rfl (fun _ => ⟨rfl, rfl⟩) rfl ?_
  refine q_aload_n dX7_init_29 rfl rfl ?_
  refine qx_bipush dX7_init_30 rfl rfl ?_
  refine qx_newI (kc := 4) (ks := 61) (nI := 18) (sh' := (q_sh0.take 19)) dX7_init_32 tw63 rfl rfl rfl rfl rfl rfl rfl ?_
  refine q_putRF (ci := 7) (k := 3) (ty := tyX7 3) dX7_init_34 rfl (by decide) rfl tw79 rfl rfl rfl (by decide) rfl (fun _ => ⟨rfl, rfl⟩) rfl ?_
  refine q_aload_n dX7_init_37 rfl rfl ?_
  refine qx_bipush dX7_init_38 rfl rfl ?_
  refine qx_newI (kc := 3) (ks := 52) (nI := 19) (sh' := (q_sh0.take 20)) dX7_init_40 tw63 rfl rfl rfl rfl rfl rfl rfl ?_
  refine q_putRF (ci := 7) (k := 4) (ty := tyX7 4) dX7_init_42 rfl (by decide) rfl tw84 rfl rfl rfl (by decide) rfl (fun _ => ⟨rfl, rfl⟩) rfl ?_
  refine q_aload_n dX7_init_45 rfl rfl ?_
  refine qx_bipush dX7_init_46 rfl rfl ?_
  refine qx_newI (kc := 2) (ks := 43) (nI := 20) (sh' := (q_sh0.take 21)) dX7_init_48 tw63 rfl rfl rfl rfl rfl rfl rfl ?_
  refine q_putRF (ci := 7) (k := 5) (ty := tyX7 5) dX7_init_50 rfl (by decide) rfl tw89 rfl rfl rfl (by decide) rfl (fun _ => ⟨rfl, rfl⟩) rfl ?_
  refine q_aload_n dX7_init_53 rfl rfl ?_
  refine qx_bipush dX7_init_54 rfl rfl ?_
  refine qx_newI (kc := 1) (ks := 7) (nI := 21) (sh' := (q_sh0.take 22)) dX7_init_56 tw63 rfl rfl rfl rfl rfl rfl rfl ?_
  refine q_putRF (ci := 7) (k := 6) (ty := tyX7 6) dX7_init_58 rfl (by decide) rfl tw94 rfl rfl rfl (by decide) rfl (fun _ => ⟨rfl, rfl⟩) rfl ?_
  refine q_aload_n dX7_init_61 rfl rfl ?_
  refine qx_bipush dX7_init_62 rfl rfl ?_
  refine qx_newI (kc := 0) (ks := 0) (nI := 22) (sh' := (q_sh0.take 23)) dX7_init_64 tw63 rfl rfl rfl rfl rfl rfl rfl ?_
  refine q_putRF (ci := 7) (k := 7) (ty := tyX7 7) dX7_init_66 rfl (by decide) rfl tw98 rfl rfl rfl (by decide) rfl (fun _ => ⟨rfl, rfl⟩) rfl ?_
  exact q_vret dX7_init_69 rfl
theorem ct4r_c {rf : qm} {c i : Int} (h : c < 14 ∧ 0 ≤ c) : ct4r rf c i = rf c i := by
  exact ((q_up_c (by omega)).trans ((q_zc (by omega)).trans ((q_up_c (by omega)).trans ((q_zc (by omega)).trans ((q_up_c (by omega)).trans ((q_zc (by omega)).trans ((q_up_c (by omega)).trans ((q_zc (by omega)).trans ((q_up_c (by omega)).trans ((q_zc (by omega)).trans ((q_up_c (by omega)).trans ((q_zc (by omega)).trans ((q_up_c (by omega)).trans ((q_zc (by omega)).trans ((q_up_c (by omega)).trans (q_zc (by omega)))))))))))))))))
theorem dX0_init_0 : decode cX0_init 0 = .ok (.aload_n 0, 1) := by decide +kernel
theorem dX0_init_1 : decode cX0_init 1 = .ok (.invokespecial 3, 3) := by decide +kernel
theorem dX0_init_4 : decode cX0_init 4 = .ok (.aload_n 0, 1) := by decide +kernel
theorem dX0_init_5 : decode cX0_init 5 = .ok (.bipush 81, 2) := by decide +kernel
theorem dX0_init_7 : decode cX0_init 7 = .ok (.newarray .int, 2) := by decide +kernel
theorem dX0_init_9 : decode cX0_init 9 = .ok (.putfield 9, 3) := by decide +kernel
theorem dX0_init_12 : decode cX0_init 12 = .ok (.aload_n 0, 1) := by decide +kernel
theorem dX0_init_13 : decode cX0_init 13 = .ok (.bipush 9, 2) := by decide +kernel
theorem dX0_init_15 : decode cX0_init 15 = .ok (.newarray .int, 2) := by decide +kernel
theorem dX0_init_17 : decode cX0_init 17 = .ok (.putfield 15, 3) := by decide +kernel
theorem dX0_init_20 : decode cX0_init 20 = .ok (.aload_n 0, 1) := by decide +kernel
theorem dX0_init_21 : decode cX0_init 21 = .ok (.aload_n 1, 1) := by decide +kernel
theorem dX0_init_22 : decode cX0_init 22 = .ok (.putfield 18, 3) := by decide +kernel
theorem dX0_init_25 : decode cX0_init 25 = .ok (.return_, 1) := by decide +kernel
def ct5r (rf : qm) : qm := (q_up (q_up (q_z (q_up (q_z rf 24 (-1)) 23 1 24) 25 (-1)) 23 2 25) 23 0 1)
def ct5m (mem : qm) : qm := (q_z (q_z mem 24 0) 25 0)
set_option maxRecDepth 20000 in
theorem ct5 {rf mem : qm} : q_Ev yX0_init cX0_init 2 none 1 2 90 [(2, 23), (2, 1)] ((q_sh0.take 24), rf, mem) (fun _ σ => σ = ((q_sh0.take 26), ct5r rf, ct5m mem)) := by
  refine q_enter (by decide +kernel) (by simp) (by decide) ?_
  show q_At yX0_init cX0_init 2 none 1 2 90 _ 0 [(2, 23), (2, 1)] [] ((q_sh0.take 24), rf, mem)
  refine q_aload_n dX0_init_0 rfl rfl ?_
  refine q_objInit dX0_init_1 tw133 tw28 tw29 (by decide) (Nat.le_of_ble_eq_true rfl) ?_
  refine q_aload_n dX0_init_4 rfl rfl ?_
  refine qx_bipush dX0_init_5 rfl rfl ?_
  refine qx_newI (kc := 1) (ks := 9) (nI := 24) (sh' := (q_sh0.take 25)) dX0_init_7 tw63 rfl rfl rfl rfl rfl rfl rfl ?_
  refine q_putRF (ci := 0) (k := 1) (ty := tyX0 1) dX0_init_9 rfl (by decide) rfl tw135 rfl rfl rfl (by decide) rfl (fun _ => ⟨rfl, rfl⟩) rfl ?_
  refine q_aload_n dX0_init_12 rfl rfl ?_
  refine qx_bipush dX0_init_13 rfl rfl ?_
  refine qx_newI (kc := 0) (ks := 0) (nI := 25) (sh' := (q_sh0.take 26)) dX0_init_15 tw63 rfl rfl rfl rfl rfl rfl rfl ?_
  refine q_putRF (ci := 0) (k := 2) (ty := tyX0 2) dX0_init_17 rfl (by decide) rfl tw136 rfl rfl rfl (by decide) rfl (fun _ => ⟨rfl, rfl⟩) rfl ?_
  refine q_aload_n dX0_init_20 rfl rfl ?_
  refine q_aload_n dX0_init_21 rfl rfl ?_
  refine q_putRF (ci := 0) (k := 0) (ty := tyX0 0) dX0_init_22 rfl (by decide) rfl tw134 rfl rfl rfl (by decide) rfl (fun _ => ⟨rfl, rfl⟩) rfl ?_
  exact q_vret dX0_init_25 rfl
theorem ct5r_c {rf : qm} {c i : Int} (h : c < 23 ∧ 0 ≤ c) : ct5r rf c i = rf c i := by
  exact ((q_up_c (by omega)).trans ((q_up_c (by omega)).trans ((q_zc (by omega)).trans ((q_up_c (by omega)).trans (q_zc (by omega))))))
theorem dX1_init_0 : decode cX1_init 0 = .ok (.aload_n 0, 1) := by decide +kernel
theorem dX1_init_1 : decode cX1_init 1 = .ok (.invokespecial 3, 3) := by decide +kernel
theorem dX1_init_4 : decode cX1_init 4 = .ok (.aload_n 0, 1) := by decide +kernel
theorem dX1_init_5 : decode cX1_init 5 = .ok (.bipush 9, 2) := by decide +kernel
theorem dX1_init_7 : decode cX1_init 7 = .ok (.newarray .int, 2) := by decide +kernel
theorem dX1_init_9 : decode cX1_init 9 = .ok (.putfield 9, 3) := by decide +kernel
theorem dX1_init_12 : decode cX1_init 12 = .ok (.aload_n 0, 1) := by decide +kernel
theorem dX1_init_13 : decode cX1_init 13 = .ok (.bipush 9, 2) := by decide +kernel
theorem dX1_init_15 : decode cX1_init 15 = .ok (.newarray .int, 2) := by decide +kernel
theorem dX1_init_17 : decode cX1_init 17 = .ok (.putfield 15, 3) := by decide +kernel
theorem dX1_init_20 : decode cX1_init 20 = .ok (.aload_n 0, 1) := by decide +kernel
theorem dX1_init_21 : decode cX1_init 21 = .ok (.bipush 9, 2) := by decide +kernel
theorem dX1_init_23 : decode cX1_init 23 = .ok (.newarray .int, 2) := by decide +kernel
theorem dX1_init_25 : decode cX1_init 25 = .ok (.putfield 18, 3) := by decide +kernel
theorem dX1_init_28 : decode cX1_init 28 = .ok (.aload_n 0, 1) := by decide +kernel
theorem dX1_init_29 : decode cX1_init 29 = .ok (.bipush 9, 2) := by decide +kernel
theorem dX1_init_31 : decode cX1_init 31 = .ok (.newarray .int, 2) := by decide +kernel
theorem dX1_init_33 : decode cX1_init 33 = .ok (.putfield 21, 3) := by decide +kernel
theorem dX1_init_36 : decode cX1_init 36 = .ok (.aload_n 0, 1) := by decide +kernel
theorem dX1_init_37 : decode cX1_init 37 = .ok (.bipush 9, 2) := by decide +kernel
theorem dX1_init_39 : decode cX1_init 39 = .ok (.newarray .int, 2) := by decide +kernel
theorem dX1_init_41 : decode cX1_init 41 = .ok (.putfield 24, 3) := by decide +kernel
theorem dX1_init_44 : decode cX1_init 44 = .ok (.aload_n 0, 1) := by decide +kernel
theorem dX1_init_45 : decode cX1_init 45 = .ok (.bipush 9, 2) := by decide +kernel
theorem dX1_init_47 : decode cX1_init 47 = .ok (.newarray .int, 2) := by decide +kernel
theorem dX1_init_49 : decode cX1_init 49 = .ok (.putfield 27, 3) := by decide +kernel
theorem dX1_init_52 : decode cX1_init 52 = .ok (.aload_n 0, 1) := by decide +kernel
theorem dX1_init_53 : decode cX1_init 53 = .ok (.aload_n 1, 1) := by decide +kernel
theorem dX1_init_54 : decode cX1_init 54 = .ok (.putfield 30, 3) := by decide +kernel
theorem dX1_init_57 : decode cX1_init 57 = .ok (.return_, 1) := by decide +kernel
def ct6r (rf : qm) : qm := (q_up (q_up (q_z (q_up (q_z (q_up (q_z (q_up (q_z (q_up (q_z (q_up (q_z rf 27 (-1)) 26 1 27) 28 (-1)) 26 2 28) 29 (-1)) 26 3 29) 30 (-1)) 26 4 30) 31 (-1)) 26 5 31) 32 (-1)) 26 6 32) 26 0 1)
def ct6m (mem : qm) : qm := (q_z (q_z (q_z (q_z (q_z (q_z mem 27 0) 28 0) 29 0) 30 0) 31 0) 32 0)
set_option maxRecDepth 20000 in
theorem ct6 {rf mem : qm} : q_Ev yX1_init cX1_init 2 none 1 6 54 [(2, 26), (2, 1)] ((q_sh0.take 27), rf, mem) (fun _ σ => σ = ((q_sh0.take 33), ct6r rf, ct6m mem)) := by
  refine q_enter (by decide +kernel) (by simp) (by decide) ?_
  show q_At yX1_init cX1_init 2 none 1 6 54 _ 0 [(2, 26), (2, 1)] [] ((q_sh0.take 27), rf, mem)
  refine q_aload_n dX1_init_0 rfl rfl ?_
  refine q_objInit dX1_init_1 tw149 tw28 tw29 (by decide) (Nat.le_of_ble_eq_true rfl) ?_
  refine q_aload_n dX1_init_4 rfl rfl ?_
  refine qx_bipush dX1_init_5 rfl rfl ?_
  refine qx_newI (kc := 5) (ks := 45) (nI := 27) (sh' := (q_sh0.take 28)) dX1_init_7 tw63 rfl rfl rfl rfl rfl rfl rfl ?_
  refine q_putRF (ci := 1) (k := 1) (ty := tyX1 1) dX1_init_9 rfl (by decide) rfl tw151 rfl rfl rfl (by decide) rfl (fun _ => ⟨rfl, rfl⟩) rfl ?_
  refine q_aload_n dX1_init_12 rfl rfl ?_
  refine qx_bipush dX1_init_13 rfl rfl ?_
  refine qx_newI (kc := 4) (ks := 36) (nI := 28) (sh' := (q_sh0.take 29)) dX1_init_15 tw63 rfl rfl rfl rfl rfl rfl rfl ?_
  refine q_putRF (ci := 1) (k := 2) (ty := tyX1 2) dX1_init_17 rfl (by decide) rfl tw154 rfl rfl rfl (by decide) rfl (fun _ => ⟨rfl, rfl⟩) rfl ?_
  refine q_aload_n dX1_init_20 rfl rfl ?_
  refine qx_bipush dX1_init_21 rfl rfl ?_
  refine qx_newI (kc := 3) (ks := 27) (nI := 29) (sh' := (q_sh0.take 30)) dX1_init_23 tw63 rfl rfl rfl rfl rfl rfl rfl ?_
  refine q_putRF (ci := 1) (k := 3) (ty := tyX1 3) dX1_init_25 rfl (by decide) rfl tw156 rfl rfl rfl (by decide) rfl (fun _ => ⟨rfl, rfl⟩) rfl ?_
  refine q_aload_n dX1_init_28 rfl rfl ?_
  refine qx_bipush dX1_init_29 rfl rfl ?_
  refine qx_newI (kc := 2) (ks := 18) (nI := 30) (sh' := (q_sh0.take 31)) dX1_init_31 tw63 rfl rfl rfl rfl rfl rfl rfl ?_
  refine q_putRF (ci := 1) (k := 4) (ty := tyX1 4) dX1_init_33 rfl (by decide) rfl tw158 rfl rfl rfl (by decide) rfl (fun _ => ⟨rfl, rfl⟩) rfl ?_
  refine q_aload_n dX1_init_36 rfl rfl ?_
  refine qx_bipush dX1_init_37 rfl rfl ?_
  refine qx_newI (kc := 1) (ks := 9) (nI := 31) (sh' := (q_sh0.take 32)) dX1_init_39 tw63 rfl rfl rfl rfl rfl rfl rfl ?_
  refine q_putRF (ci := 1) (k := 5) (ty := tyX1 5) dX1_init_41 rfl (by decide) rfl tw159 rfl rfl rfl (by decide) rfl (fun _ => ⟨rfl, rfl⟩) rfl ?_
  refine q_aload_n dX1_init_44 rfl rfl ?_
  refine qx_bipush dX1_init_45 rfl rfl ?_
  refine qx_newI (kc := 0) (ks := 0) (nI := 32) (sh' := (q_sh0.take 33)) dX1_init_47 tw63 rfl rfl rfl rfl rfl rfl rfl ?_
  refine q_putRF (ci := 1) (k := 6) (ty := tyX1 6) dX1_init_49 rfl (by decide) rfl tw160 rfl rfl rfl (by decide) rfl (fun _ => ⟨rfl, rfl⟩) rfl ?_
  refine q_aload_n dX1_init_52 rfl rfl ?_
  refine q_aload_n dX1_init_53 rfl rfl ?_
  refine q_putRF (ci := 1) (k := 0) (ty := tyX1 0) dX1_init_54 rfl (by decide) rfl tw150 rfl rfl rfl (by decide) rfl (fun _ => ⟨rfl, rfl⟩) rfl ?_
  exact q_vret dX1_init_57 rfl
theorem ct6r_c {rf : qm} {c i : Int} (h : c < 26 ∧ 0 ≤ c) : ct6r rf c i = rf c i := by
  exact ((q_up_c (by omega)).trans ((q_up_c (by omega)).trans ((q_zc (by omega)).trans ((q_up_c (by omega)).trans ((q_zc (by omega)).trans ((q_up_c (by omega)).trans ((q_zc (by omega)).trans ((q_up_c (by omega)).trans ((q_zc (by omega)).trans ((q_up_c (by omega)).trans ((q_zc (by omega)).trans ((q_up_c (by omega)).trans (q_zc (by omega))))))))))))))
theorem dX3_init_0 : decode cX3_init 0 = .ok (.aload_n 0, 1) := by decide +kernel
theorem dX3_init_1 : decode cX3_init 1 = .ok (.invokespecial 3, 3) := by decide +kernel
theorem dX3_init_4 : decode cX3_init 4 = .ok (.aload_n 0, 1) := by decide +kernel
theorem dX3_init_5 : decode cX3_init 5 = .ok (.bipush 12, 2) := by decide +kernel
theorem dX3_init_7 : decode cX3_init 7 = .ok (.anewarray 9, 3) := by decide +kernel
theorem dX3_init_10 : decode cX3_init 10 = .ok (.putfield 11, 3) := by decide +kernel
theorem dX3_init_13 : decode cX3_init 13 = .ok (.iconst 0, 1) := by decide +kernel
theorem dX3_init_14 : decode cX3_init 14 = .ok (.istore_n 1, 1) := by decide +kernel
theorem dX3_init_15 : decode cX3_init 15 = .ok (.iload_n 1, 1) := by decide +kernel
theorem dX3_init_16 : decode cX3_init 16 = .ok (.bipush 12, 2) := by decide +kernel
theorem dX3_init_18 : decode cX3_init 18 = .ok (.if_icmp .ge 22, 3) := by decide +kernel
theorem dX3_init_21 : decode cX3_init 21 = .ok (.aload_n 0, 1) := by decide +kernel
theorem dX3_init_22 : decode cX3_init 22 = .ok (.getfield 11, 3) := by decide +kernel
theorem dX3_init_25 : decode cX3_init 25 = .ok (.iload_n 1, 1) := by decide +kernel
theorem dX3_init_26 : decode cX3_init 26 = .ok (.new 9, 3) := by decide +kernel
theorem dX3_init_29 : decode cX3_init 29 = .ok (.dup, 1) := by decide +kernel
theorem dX3_init_30 : decode cX3_init 30 = .ok (.invokespecial 17, 3) := by decide +kernel
theorem dX3_init_33 : decode cX3_init 33 = .ok (.aastore, 1) := by decide +kernel
theorem dX3_init_34 : decode cX3_init 34 = .ok (.iinc 1 1, 3) := by decide +kernel
theorem dX3_init_37 : decode cX3_init 37 = .ok (.goto (-22), 3) := by decide +kernel
theorem dX3_init_40 : decode cX3_init 40 = .ok (.return_, 1) := by decide +kernel
def ct8r (rf : qm) : qm := (q_up (q_z (q_up (q_z (q_up (q_z (q_up (q_z (q_up (q_z (q_up (q_z (q_up (q_z (q_up (q_z rf 36 (-1)) 35 0 36) 37 (-1)) 35 1 37) 38 (-1)) 35 2 38) 39 (-1)) 35 3 39) 40 (-1)) 35 4 40) 41 (-1)) 35 5 41) 42 (-1)) 35 6 42) 43 (-1)) 35 7 43)
def ct8m (mem : qm) : qm := (q_z (q_z (q_z (q_z (q_z (q_z (q_z (q_z mem 36 0) 37 0) 38 0) 39 0) 40 0) 41 0) 42 0) 43 0)
set_option maxRecDepth 20000 in
theorem ct8 {rf mem : qm} : q_Ev yX7_init cX7_init 1 none 1 8 628 [(2, 35)] ((q_sh0.take 36), rf, mem) (fun _ σ => σ = ((q_sh0.take 44), ct8r rf, ct8m mem)) := by
  refine q_enter (by decide +kernel) (by simp) (by decide) ?_
  show q_At yX7_init cX7_init 1 none 1 8 628 _ 0 [(2, 35)] [] ((q_sh0.take 36), rf, mem)
  refine q_aload_n dX7_init_0 rfl rfl ?_
  refine q_objInit dX7_init_1 tw69 tw28 tw29 (by decide) (Nat.le_of_ble_eq_true rfl) ?_
  refine q_aload_n dX7_init_4 rfl rfl ?_
  refine qx_sipush dX7_init_5 rfl rfl ?_
  refine qx_newI (kc := 7) (ks := 88) (nI := 36) (sh' := (q_sh0.take 37)) dX7_init_8 tw63 rfl rfl rfl rfl rfl rfl rfl ?_
  refine q_putRF (ci := 7) (k := 0) (ty := tyX7 0) dX7_init_10 rfl (by decide) rfl tw70 rfl rfl rfl (by decide) rfl (fun _ => ⟨rfl, rfl⟩) rfl ?_
  refine q_aload_n dX7_init_13 rfl rfl ?_
  refine qx_bipush dX7_init_14 rfl rfl ?_
  refine qx_newI (kc := 6) (ks := 79) (nI := 37) (sh' := (q_sh0.take 38)) dX7_init_16 tw63 rfl rfl rfl rfl rfl rfl rfl ?_
  refine q_putRF (ci := 7) (k := 1) (ty := tyX7 1) dX7_init_18 rfl (by decide) rfl tw71 rfl rfl rfl (by decide) rfl (fun _ => ⟨rfl, rfl⟩) rfl ?_
  refine q_aload_n dX7_init_21 rfl rfl ?_
  refine qx_bipush dX7_init_22 rfl rfl ?_
  refine qx_newI (kc := 5) (ks := 70) (nI := 38) (sh' := (q_sh0.take 39)) dX7_init_24 tw63 rfl rfl rfl rfl rfl rfl rfl ?_
  refine q_putRF (ci := 7) (k := 2) (ty := tyX7 2) dX7_init_26 rfl (by decide) rfl tw73 rfl rfl rfl (by decide) rfl (fun _ => ⟨rfl, rfl⟩) rfl ?_
  refine q_aload_n dX7_init_29 rfl rfl ?_
  refine qx_bipush dX7_init_30 rfl rfl ?_
  refine qx_newI (kc := 4) (ks := 61) (nI := 39) (sh' := (q_sh0.take 40)) dX7_init_32 tw63 rfl rfl rfl rfl rfl rfl rfl ?_
  refine q_putRF (ci := 7) (k := 3) (ty := tyX7 3) dX7_init_34 rfl (by decide) rfl tw79 rfl rfl rfl (by decide) rfl (fun _ => ⟨rfl, rfl⟩) rfl ?_
  refine q_aload_n dX7_init_37 rfl rfl ?_
  refine qx_bipush dX7_init_38 rfl rfl ?_
  refine qx_newI (kc := 3) (ks := 52) (nI := 40) (sh' := (q_sh0.take 41)) dX7_init_40 tw63 rfl rfl rfl rfl rfl rfl rfl ?_
  refine q_putRF (ci := 7) (k := 4) (ty := tyX7 4) dX7_init_42 rfl (by decide) rfl tw84 rfl rfl rfl (by decide) rfl (fun _ => ⟨rfl, rfl⟩) rfl ?_
  refine q_aload_n dX7_init_45 rfl rfl ?_
  refine qx_bipush dX7_init_46 rfl rfl ?_
  refine qx_newI (kc := 2) (ks := 43) (nI := 41) (sh' := (q_sh0.take 42)) dX7_init_48 tw63 rfl rfl rfl rfl rfl rfl rfl ?_
  refine q_putRF (ci := 7) (k := 5) (ty := tyX7 5) dX7_init_50 rfl (by decide) rfl tw89 rfl rfl rfl (by decide) rfl (fun _ => ⟨rfl, rfl⟩) rfl ?_
  refine q_aload_n dX7_init_53 rfl rfl ?_
  refine qx_bipush dX7_init_54 rfl rfl ?_
  refine qx_newI (kc := 1) (ks := 7) (nI := 42) (sh' := (q_sh0.take 43)) dX7_init_56 tw63 rfl rfl rfl rfl rfl rfl rfl ?_
  refine q_putRF (ci := 7) (k := 6) (ty := tyX7 6) dX7_init_58 rfl (by decide) rfl tw94 rfl rfl rfl (by decide) rfl (fun _ => ⟨rfl, rfl⟩) rfl ?_
  refine q_aload_n dX7_init_61 rfl rfl ?_
  refine qx_bipush dX7_init_62 rfl rfl ?_
  refine qx_newI (kc := 0) (ks := 0) (nI := 43) (sh' := (q_sh0.take 44)) dX7_init_64 tw63 rfl rfl rfl rfl rfl rfl rfl ?_
  refine q_putRF (ci := 7) (k := 7) (ty := tyX7 7) dX7_init_66 rfl (by decide) rfl tw98 rfl rfl rfl (by decide) rfl (fun _ => ⟨rfl, rfl⟩) rfl ?_
  exact q_vret dX7_init_69 rfl
theorem ct8r_c {rf : qm} {c i : Int} (h : c < 35 ∧ 0 ≤ c) : ct8r rf c i = rf c i := by
  exact ((q_up_c (by omega)).trans ((q_zc (by omega)).trans ((q_up_c (by omega)).trans ((q_zc (by omega)).trans ((q_up_c (by omega)).trans ((q_zc (by omega)).trans ((q_up_c (by omega)).trans ((q_zc (by omega)).trans ((q_up_c (by omega)).trans ((q_zc (by omega)).trans ((q_up_c (by omega)).trans ((q_zc (by omega)).trans ((q_up_c (by omega)).trans ((q_zc (by omega)).trans ((q_up_c (by omega)).trans (q_zc (by omega)))))))))))))))))
def ct9r (rf : qm) : qm := (q_up (q_z (q_up (q_z (q_up (q_z (q_up (q_z (q_up (q_z (q_up (q_z (q_up (q_z (q_up (q_z rf 45 (-1)) 44 0 45) 46 (-1)) 44 1 46) 47 (-1)) 44 2 47) 48 (-1)) 44 3 48) 49 (-1)) 44 4 49) 50 (-1)) 44 5 50) 51 (-1)) 44 6 51) 52 (-1)) 44 7 52)
def ct9m (mem : qm) : qm := (q_z (q_z (q_z (q_z (q_z (q_z (q_z (q_z mem 45 0) 46 0) 47 0) 48 0) 49 0) 50 0) 51 0) 52 0)
set_option maxRecDepth 20000 in
theorem ct9 {rf mem : qm} : q_Ev yX7_init cX7_init 1 none 1 8 628 [(2, 44)] ((q_sh0.take 45), rf, mem) (fun _ σ => σ = ((q_sh0.take 53), ct9r rf, ct9m mem)) := by
  refine q_enter (by decide +kernel) (by simp) (by decide) ?_
  show q_At yX7_init cX7_init 1 none 1 8 628 _ 0 [(2, 44)] [] ((q_sh0.take 45), rf, mem)
  refine q_aload_n dX7_init_0 rfl rfl ?_
  refine q_objInit dX7_init_1 tw69 tw28 tw29 (by decide) (Nat.le_of_ble_eq_true rfl) ?_
  refine q_aload_n dX7_init_4 rfl rfl ?_
  refine qx_sipush dX7_init_5 rfl rfl ?_
  refine qx_newI (kc := 7) (ks := 88) (nI := 45) (sh' := (q_sh0.take 46)) dX7_init_8 tw63 rfl rfl rfl rfl rfl rfl rfl ?_
  refine q_putRF (ci := 7) (k := 0) (ty := tyX7 0) dX7_init_10 rfl (by decide) rfl tw70 rfl rfl rfl (by decide) rfl (fun _ => ⟨rfl, rfl⟩) rfl ?_
  refine q_aload_n dX7_init_13 rfl rfl ?_
  refine qx_bipush dX7_init_14 rfl rfl ?_
  refine qx_newI (kc := 6) (ks := 79) (nI := 46) (sh' := (q_sh0.take 47)) dX7_init_16 tw63 rfl rfl rfl rfl rfl rfl rfl ?_
  refine q_putRF (ci := 7) (k := 1) (ty := tyX7 1) dX7_init_18 rfl (by decide) rfl tw71 rfl rfl rfl (by decide) rfl (fun _ => ⟨rfl, rfl⟩) rfl ?_
  refine q_aload_n dX7_init_21 rfl rfl ?_
  refine qx_bipush dX7_init_22 rfl rfl ?_
  refine qx_newI (kc := 5) (ks := 70) (nI := 47) (sh' := (q_sh0.take 48)) dX7_init_24 tw63 rfl rfl rfl rfl rfl rfl rfl ?_
  refine q_putRF (ci := 7) (k := 2) (ty := tyX7 2) dX7_init_26 rfl (by decide) rfl tw73 rfl rfl rfl (by decide) rfl (fun _ => ⟨rfl, rfl⟩) rfl ?_
  refine q_aload_n dX7_init_29 rfl rfl ?_
  refine qx_bipush dX7_init_30 rfl rfl ?_
  refine qx_newI (kc := 4) (ks := 61) (nI := 48) (sh' := (q_sh0.take 49)) dX7_init_32 tw63 rfl rfl rfl rfl rfl rfl rfl ?_
  refine q_putRF (ci := 7) (k := 3) (ty := tyX7 3) dX7_init_34 rfl (by decide) rfl tw79 rfl rfl rfl (by decide) rfl (fun _ => ⟨rfl, rfl⟩) rfl ?_
  refine q_aload_n dX7_init_37 rfl rfl ?_
  refine qx_bipush dX7_init_38 rfl rfl ?_
  refine qx_newI (kc := 3) (ks := 52) (nI := 49) (sh' := (q_sh0.take 50)) dX7_init_40 tw63 rfl rfl rfl rfl rfl rfl rfl ?_
  refine q_putRF (ci := 7) (k := 4) (ty := tyX7 4) dX7_init_42 rfl (by decide) rfl tw84 rfl rfl rfl (by decide) rfl (fun _ => ⟨rfl, rfl⟩) rfl ?_
  refine q_aload_n dX7_init_45 rfl rfl ?_
  refine qx_bipush dX7_init_46 rfl rfl ?_
  refine qx_newI (kc := 2) (ks := 43) (nI := 50) (sh' := (q_sh0.take 51)) dX7_init_48 tw63 rfl rfl rfl rfl rfl rfl rfl ?_
  refine q_putRF (ci := 7) (k := 5) (ty := tyX7 5) dX7_init_50 rfl (by decide) rfl tw89 rfl rfl rfl (by decide) rfl (fun _ => ⟨rfl, rfl⟩) rfl ?_
  refine q_aload_n dX7_init_53 rfl rfl ?_
  refine qx_bipush dX7_init_54 rfl rfl ?_
  refine qx_newI (kc := 1) (ks := 7) (nI := 51) (sh' := (q_sh0.take 52)) dX7_init_56 tw63 rfl rfl rfl rfl rfl rfl rfl ?_
  refine q_putRF (ci := 7) (k := 6) (ty := tyX7 6) dX7_init_58 rfl (by decide) rfl tw94 rfl rfl rfl (by decide) rfl (fun _ => ⟨rfl, rfl⟩) rfl ?_
  refine q_aload_n dX7_init_61 rfl rfl ?_
  refine qx_bipush dX7_init_62 rfl rfl ?_
  refine qx_newI (kc := 0) (ks := 0) (nI := 52) (sh' := (q_sh0.take 53)) dX7_init_64 tw63 rfl rfl rfl rfl rfl rfl rfl ?_
  refine q_putRF (ci := 7) (k := 7) (ty := tyX7 7) dX7_init_66 rfl (by decide) rfl tw98 rfl rfl rfl (by decide) rfl (fun _ => ⟨rfl, rfl⟩) rfl ?_
  exact q_vret dX7_init_69 rfl
theorem ct9r_c {rf : qm} {c i : Int} (h : c < 44 ∧ 0 ≤ c) : ct9r rf c i = rf c i := by
  exact ((q_up_c (by omega)).trans ((q_zc (by omega)).trans ((q_up_c (by omega)).trans ((q_zc (by omega)).trans ((q_up_c (by omega)).trans ((q_zc (by omega)).trans ((q_up_c (by omega)).trans ((q_zc (by omega)).trans ((q_up_c (by omega)).trans ((q_zc (by omega)).trans ((q_up_c (by omega)).trans ((q_zc (by omega)).trans ((q_up_c (by omega)).trans ((q_zc (by omega)).trans ((q_up_c (by omega)).trans (q_zc (by omega)))))))))))))))))
def ct10r (rf : qm) : qm := (q_up (q_z (q_up (q_z (q_up (q_z (q_up (q_z (q_up (q_z (q_up (q_z (q_up (q_z (q_up (q_z rf 54 (-1)) 53 0 54) 55 (-1)) 53 1 55) 56 (-1)) 53 2 56) 57 (-1)) 53 3 57) 58 (-1)) 53 4 58) 59 (-1)) 53 5 59) 60 (-1)) 53 6 60) 61 (-1)) 53 7 61)
def ct10m (mem : qm) : qm := (q_z (q_z (q_z (q_z (q_z (q_z (q_z (q_z mem 54 0) 55 0) 56 0) 57 0) 58 0) 59 0) 60 0) 61 0)
set_option maxRecDepth 20000 in
theorem ct10 {rf mem : qm} : q_Ev yX7_init cX7_init 1 none 1 8 628 [(2, 53)] ((q_sh0.take 54), rf, mem) (fun _ σ => σ = ((q_sh0.take 62), ct10r rf, ct10m mem)) := by
  refine q_enter (by decide +kernel) (by simp) (by decide) ?_
  show q_At yX7_init cX7_init 1 none 1 8 628 _ 0 [(2, 53)] [] ((q_sh0.take 54), rf, mem)
  refine q_aload_n dX7_init_0 rfl rfl ?_
  refine q_objInit dX7_init_1 tw69 tw28 tw29 (by decide) (Nat.le_of_ble_eq_true rfl) ?_
  refine q_aload_n dX7_init_4 rfl rfl ?_
  refine qx_sipush dX7_init_5 rfl rfl ?_
  refine qx_newI (kc := 7) (ks := 88) (nI := 54) (sh' := (q_sh0.take 55)) dX7_init_8 tw63 rfl rfl rfl rfl rfl rfl rfl ?_
  refine q_putRF (ci := 7) (k := 0) (ty := tyX7 0) dX7_init_10 rfl (by decide) rfl tw70 rfl rfl rfl (by decide) rfl (fun _ => ⟨rfl, rfl⟩) rfl ?_
  refine q_aload_n dX7_init_13 rfl rfl ?_
  refine qx_bipush dX7_init_14 rfl rfl ?_
  refine qx_newI (kc := 6) (ks := 79) (nI := 55) (sh' := (q_sh0.take 56)) dX7_init_16 tw63 rfl rfl rfl rfl rfl rfl rfl ?_
  refine q_putRF (ci := 7) (k := 1) (ty := tyX7 1) dX7_init_18 rfl (by decide) rfl tw71 rfl rfl rfl (by decide) rfl (fun _ => ⟨rfl, rfl⟩) rfl ?_
  refine q_aload_n dX7_init_21 rfl rfl ?_
  refine qx_bipush dX7_init_22 rfl rfl ?_
  refine qx_newI (kc := 5) (ks := 70) (nI := 56) (sh' := (q_sh0.take 57)) dX7_init_24 tw63 rfl rfl rfl rfl rfl rfl rfl ?_
  refine q_putRF (ci := 7) (k := 2) (ty := tyX7 2) dX7_init_26 rfl (by decide) rfl tw73 rfl rfl rfl (by decide) rfl (fun _ => ⟨rfl, rfl⟩) rfl ?_
  refine q_aload_n dX7_init_29 rfl rfl ?_
  refine qx_bipush dX7_init_30 rfl rfl ?_
  refine qx_newI (kc := 4) (ks := 61) (nI := 57) (sh' := (q_sh0.take 58)) dX7_init_32 tw63 rfl rfl rfl rfl rfl rfl rfl ?_
  refine q_putRF (ci := 7) (k := 3) (ty := tyX7 3) dX7_init_34 rfl (by decide) rfl tw79 rfl rfl rfl (by decide) rfl (fun _ => ⟨rfl, rfl⟩) rfl ?_
  refine q_aload_n dX7_init_37 rfl rfl ?_
  refine qx_bipush dX7_init_38 rfl rfl ?_
  refine qx_newI (kc := 3) (ks := 52) (nI := 58) (sh' := (q_sh0.take 59)) dX7_init_40 tw63 rfl rfl rfl rfl rfl rfl rfl ?_
  refine q_putRF (ci := 7) (k := 4) (ty := tyX7 4) dX7_init_42 rfl (by decide) rfl tw84 rfl rfl rfl (by decide) rfl (fun _ => ⟨rfl, rfl⟩) rfl ?_
  refine q_aload_n dX7_init_45 rfl rfl ?_
  refine qx_bipush dX7_init_46 rfl rfl ?_
  refine qx_newI (kc := 2) (ks := 43) (nI := 59) (sh' := (q_sh0.take 60)) dX7_init_48 tw63 rfl rfl rfl rfl rfl rfl rfl ?_
  refine q_putRF (ci := 7) (k := 5) (ty := tyX7 5) dX7_init_50 rfl (by decide) rfl tw89 rfl rfl rfl (by decide) rfl (fun _ => ⟨rfl, rfl⟩) rfl ?_
  refine q_aload_n dX7_init_53 rfl rfl ?_
  refine qx_bipush dX7_init_54 rfl rfl ?_
  refine qx_newI (kc := 1) (ks := 7) (nI := 60) (sh' := (q_sh0.take 61)) dX7_init_56 tw63 rfl rfl rfl rfl rfl rfl rfl ?_
  refine q_putRF (ci := 7) (k := 6) (ty := tyX7 6) dX7_init_58 rfl (by decide) rfl tw94 rfl rfl rfl (by decide) rfl (fun _ => ⟨rfl, rfl⟩) rfl ?_
  refine q_aload_n dX7_init_61 rfl rfl ?_
  refine qx_bipush dX7_init_62 rfl rfl ?_
  refine qx_newI (kc := 0) (ks := 0) (nI := 61) (sh' := (q_sh0.take 62)) dX7_init_64 tw63 rfl rfl rfl rfl rfl rfl rfl ?_
  refine q_putRF (ci := 7) (k := 7) (ty := tyX7 7) dX7_init_66 rfl (by decide) rfl tw98 rfl rfl rfl (by decide) rfl (fun _ => ⟨rfl, rfl⟩) rfl ?_
  exact q_vret dX7_init_69 rfl
theorem ct10r_c {rf : qm} {c i : Int} (h : c < 53 ∧ 0 ≤ c) : ct10r rf c i = rf c i := by
  exact ((q_up_c (by omega)).trans ((q_zc (by omega)).trans ((q_up_c (by omega)).trans ((q_zc (by omega)).trans ((q_up_c (by omega)).trans ((q_zc (by omega)).trans ((q_up_c (by omega)).trans ((q_zc (by omega)).trans ((q_up_c (by omega)).trans ((q_zc (by omega)).trans ((q_up_c (by omega)).trans ((q_zc (by omega)).trans ((q_up_c (by omega)).trans ((q_zc (by omega)).trans ((q_up_c (by omega)).trans (q_zc (by omega)))))))))))))))))
def ct11r (rf : qm) : qm := (q_up (q_z (q_up (q_z (q_up (q_z (q_up (q_z (q_up (q_z (q_up (q_z (q_up (q_z (q_up (q_z rf 63 (-1)) 62 0 63) 64 (-1)) 62 1 64) 65 (-1)) 62 2 65) 66 (-1)) 62 3 66) 67 (-1)) 62 4 67) 68 (-1)) 62 5 68) 69 (-1)) 62 6 69) 70 (-1)) 62 7 70)
def ct11m (mem : qm) : qm := (q_z (q_z (q_z (q_z (q_z (q_z (q_z (q_z mem 63 0) 64 0) 65 0) 66 0) 67 0) 68 0) 69 0) 70 0)
set_option maxRecDepth 20000 in
theorem ct11 {rf mem : qm} : q_Ev yX7_init cX7_init 1 none 1 8 628 [(2, 62)] ((q_sh0.take 63), rf, mem) (fun _ σ => σ = ((q_sh0.take 71), ct11r rf, ct11m mem)) := by
  refine q_enter (by decide +kernel) (by simp) (by decide) ?_
  show q_At yX7_init cX7_init 1 none 1 8 628 _ 0 [(2, 62)] [] ((q_sh0.take 63), rf, mem)
  refine q_aload_n dX7_init_0 rfl rfl ?_
  refine q_objInit dX7_init_1 tw69 tw28 tw29 (by decide) (Nat.le_of_ble_eq_true rfl) ?_
  refine q_aload_n dX7_init_4 rfl rfl ?_
  refine qx_sipush dX7_init_5 rfl rfl ?_
  refine qx_newI (kc := 7) (ks := 88) (nI := 63) (sh' := (q_sh0.take 64)) dX7_init_8 tw63 rfl rfl rfl rfl rfl rfl rfl ?_
  refine q_putRF (ci := 7) (k := 0) (ty := tyX7 0) dX7_init_10 rfl (by decide) rfl tw70 rfl rfl rfl (by decide) rfl (fun _ => ⟨rfl, rfl⟩) rfl ?_
  refine q_aload_n dX7_init_13 rfl rfl ?_
  refine qx_bipush dX7_init_14 rfl rfl ?_
  refine qx_newI (kc := 6) (ks := 79) (nI := 64) (sh' := (q_sh0.take 65)) dX7_init_16 tw63 rfl rfl rfl rfl rfl rfl rfl ?_
  refine q_putRF (ci := 7) (k := 1) (ty := tyX7 1) dX7_init_18 rfl (by decide) rfl tw71 rfl rfl rfl (by decide) rfl (fun _ => ⟨rfl, rfl⟩) rfl ?_
  refine q_aload_n dX7_init_21 rfl rfl ?_
  refine qx_bipush dX7_init_22 rfl rfl ?_
  refine qx_newI (kc := 5) (ks := 70) (nI := 65) (sh' := (q_sh0.take 66)) dX7_init_24 tw63 rfl rfl rfl rfl rfl rfl rfl ?_
  refine q_putRF (ci := 7) (k := 2) (ty := tyX7 2) dX7_init_26 rfl (by decide) rfl tw73 rfl rfl rfl (by decide) rfl (fun _ => ⟨rfl, rfl⟩) rfl ?_
  refine q_aload_n dX7_init_29 rfl rfl ?_
  refine qx_bipush dX7_init_30 rfl rfl ?_
  refine qx_newI (kc := 4) (ks := 61) (nI := 66) (sh' := (q_sh0.take 67)) dX7_init_32 tw63 rfl rfl rfl rfl rfl rfl rfl ?_
  refine q_putRF (ci := 7) (k := 3) (ty := tyX7 3) dX7_init_34 rfl (by decide) rfl tw79 rfl rfl rfl (by decide) rfl (fun _ => ⟨rfl, rfl⟩) rfl ?_
  refine q_aload_n dX7_init_37 rfl rfl ?_
  refine qx_bipush dX7_init_38 rfl rfl ?_
  refine qx_newI (kc := 3) (ks := 52) (nI := 67) (sh' := (q_sh0.take 68)) dX7_init_40 tw63 rfl rfl rfl rfl rfl rfl rfl ?_
  refine q_putRF (ci := 7) (k := 4) (ty := tyX7 4) dX7_init_42 rfl (by decide) rfl tw84 rfl rfl rfl (by decide) rfl (fun _ => ⟨rfl, rfl⟩) rfl ?_
  refine q_aload_n dX7_init_45 rfl rfl ?_
  refine qx_bipush dX7_init_46 rfl rfl ?_
  refine qx_newI (kc := 2) (ks := 43) (nI := 68) (sh' := (q_sh0.take 69)) dX7_init_48 tw63 rfl rfl rfl rfl rfl rfl rfl ?_
  refine q_putRF (ci := 7) (k := 5) (ty := tyX7 5) dX7_init_50 rfl (by decide) rfl tw89 rfl rfl rfl (by decide) rfl (fun _ => ⟨rfl, rfl⟩) rfl ?_
  refine q_aload_n dX7_init_53 rfl rfl ?_
  refine qx_bipush dX7_init_54 rfl rfl ?_
  refine qx_newI (kc := 1) (ks := 7) (nI := 69) (sh' := (q_sh0.take 70)) dX7_init_56 tw63 rfl rfl rfl rfl rfl rfl rfl ?_
  refine q_putRF (ci := 7) (k := 6) (ty := tyX7 6) dX7_init_58 rfl (by decide) rfl tw94 rfl rfl rfl (by decide) rfl (fun _ => ⟨rfl, rfl⟩) rfl ?_
  refine q_aload_n dX7_init_61 rfl rfl ?_
  refine qx_bipush dX7_init_62 rfl rfl ?_
  refine qx_newI (kc := 0) (ks := 0) (nI := 70) (sh' := (q_sh0.take 71)) dX7_init_64 tw63 rfl rfl rfl rfl rfl rfl rfl ?_
  refine q_putRF (ci := 7) (k := 7) (ty := tyX7 7) dX7_init_66 rfl (by decide) rfl tw98 rfl rfl rfl (by decide) rfl (fun _ => ⟨rfl, rfl⟩) rfl ?_
  exact q_vret dX7_init_69 rfl
theorem ct11r_c {rf : qm} {c i : Int} (h : c < 62 ∧ 0 ≤ c) : ct11r rf c i = rf c i := by
  exact ((q_up_c (by omega)).trans ((q_zc (by omega)).trans ((q_up_c (by omega)).trans ((q_zc (by omega)).trans ((q_up_c (by omega)).trans ((q_zc (by omega)).trans ((q_up_c (by omega)).trans ((q_zc (by omega)).trans ((q_up_c (by omega)).trans ((q_zc (by omega)).trans ((q_up_c (by omega)).trans ((q_zc (by omega)).trans ((q_up_c (by omega)).trans ((q_zc (by omega)).trans ((q_up_c (by omega)).trans (q_zc (by omega)))))))))))))))))
def ct12r (rf : qm) : qm := (q_up (q_z (q_up (q_z (q_up (q_z (q_up (q_z (q_up (q_z (q_up (q_z (q_up (q_z (q_up (q_z rf 72 (-1)) 71 0 72) 73 (-1)) 71 1 73) 74 (-1)) 71 2 74) 75 (-1)) 71 3 75) 76 (-1)) 71 4 76) 77 (-1)) 71 5 77) 78 (-1)) 71 6 78) 79 (-1)) 71 7 79)
def ct12m (mem : qm) : qm := (q_z (q_z (q_z (q_z (q_z (q_z (q_z (q_z mem 72 0) 73 0) 74 0) 75 0) 76 0) 77 0) 78 0) 79 0)
set_option maxRecDepth 20000 in
theorem ct12 {rf mem : qm} : q_Ev yX7_init cX7_init 1 none 1 8 628 [(2, 71)] ((q_sh0.take 72), rf, mem) (fun _ σ => σ = ((q_sh0.take 80), ct12r rf, ct12m mem)) := by
  refine q_enter (by decide +kernel) (by simp) (by decide) ?_
  show q_At yX7_init cX7_init 1 none 1 8 628 _ 0 [(2, 71)] [] ((q_sh0.take 72), rf, mem)
  refine q_aload_n dX7_init_0 rfl rfl ?_
  refine q_objInit dX7_init_1 tw69 tw28 tw29 (by decide) (Nat.le_of_ble_eq_true rfl) ?_
  refine q_aload_n dX7_init_4 rfl rfl ?_
  refine qx_sipush dX7_init_5 rfl rfl ?_
  refine qx_newI (kc := 7) (ks := 88) (nI := 72) (sh' := (q_sh0.take 73)) dX7_init_8 tw63 rfl rfl rfl rfl rfl rfl rfl ?_
  refine q_putRF (ci := 7) (k := 0) (ty := tyX7 0) dX7_init_10 rfl (by decide) rfl tw70 rfl rfl rfl (by decide) rfl (fun _ => ⟨rfl, rfl⟩) rfl ?_
  refine q_aload_n dX7_init_13 rfl rfl ?_
  refine qx_bipush dX7_init_14 rfl rfl ?_
  refine qx_newI (kc := 6) (ks := 79) (nI := 73) (sh' := (q_sh0.take 74)) dX7_init_16 tw63 rfl rfl rfl rfl rfl rfl rfl ?_
  refine q_putRF (ci := 7) (k := 1) (ty := tyX7 1) dX7_init_18 rfl (by decide) rfl tw71 rfl rfl rfl (by decide) rfl (fun _ => ⟨rfl, rfl⟩) rfl ?_
  refine q_aload_n dX7_init_21 rfl rfl ?_
  refine qx_bipush dX7_init_22 rfl rfl ?_
  refine qx_newI (kc := 5) (ks := 70) (nI := 74) (sh' := (q_sh0.take 75)) dX7_init_24 tw63 rfl rfl rfl rfl rfl rfl rfl ?_
  refine q_putRF (ci := 7) (k := 2) (ty := tyX7 2) dX7_init_26 rfl (by decide) rfl tw73 rfl rfl rfl (by decide) rfl (fun _ => ⟨rfl, rfl⟩) rfl ?_
  refine q_aload_n dX7_init_29 rfl rfl ?_
  refine qx_bipush dX7_init_30 rfl rfl ?_
  refine qx_newI (kc := 4) (ks := 61) (nI := 75) (sh' := (q_sh0.take 76)) dX7_init_32 tw63 rfl rfl rfl rfl rfl rfl rfl ?_
  refine q_putRF (ci := 7) (k := 3) (ty := tyX7 3) dX7_init_34 rfl (by decide) rfl tw79 rfl rfl rfl (by decide) rfl (fun _ => ⟨rfl, rfl⟩) rfl ?_
  refine q_aload_n dX7_init_37 rfl rfl ?_
  refine qx_bipush dX7_init_38 rfl rfl ?_
  refine qx_newI (kc := 3) (ks := 52) (nI := 76) (sh' := (q_sh0.take 77)) dX7_init_40 tw63 rfl rfl rfl rfl rfl rfl rfl ?_
  refine q_putRF (ci := 7) (k := 4) (ty := tyX7 4) dX7_init_42 rfl (by decide) rfl tw84 rfl rfl rfl (by decide) rfl (fun _ => ⟨rfl, rfl⟩) rfl ?_
  refine q_aload_n dX7_init_45 rfl rfl ?_
  refine qx_bipush dX7_init_46 rfl rfl ?_
  refine qx_newI (kc := 2) (ks := 43) (nI := 77) (sh' := (q_sh0.take 78)) dX7_init_48 tw63 rfl rfl rfl rfl rfl rfl rfl ?_
  refine q_putRF (ci := 7) (k := 5) (ty := tyX7 5) dX7_init_50 rfl (by decide) rfl tw89 rfl rfl rfl (by decide) rfl (fun _ => ⟨rfl, rfl⟩) rfl ?_
  refine q_aload_n dX7_init_53 rfl rfl ?_
  refine qx_bipush dX7_init_54 rfl rfl ?_
  refine qx_newI (kc := 1) (ks := 7) (nI := 78) (sh' := (q_sh0.take 79)) dX7_init_56 tw63 rfl rfl rfl rfl rfl rfl rfl ?_
  refine q_putRF (ci := 7) (k := 6) (ty := tyX7 6) dX7_init_58 rfl (by decide) rfl tw94 rfl rfl rfl (by decide) rfl (fun _ => ⟨rfl, rfl⟩) rfl ?_
  refine q_aload_n dX7_init_61 rfl rfl ?_
  refine qx_bipush dX7_init_62 rfl rfl ?_
  refine qx_newI (kc := 0) (ks := 0) (nI := 79) (sh' := (q_sh0.take 80)) dX7_init_64 tw63 rfl rfl rfl rfl rfl rfl rfl ?_
  refine q_putRF (ci := 7) (k := 7) (ty := tyX7 7) dX7_init_66 rfl (by decide) rfl tw98 rfl rfl rfl (by decide) rfl (fun _ => ⟨rfl, rfl⟩) rfl ?_
  exact q_vret dX7_init_69 rfl
theorem ct12r_c {rf : qm} {c i : Int} (h : c < 71 ∧ 0 ≤ c) : ct12r rf c i = rf c i := by
  exact ((q_up_c (by omega)).trans ((q_zc (by omega)).trans ((q_up_c (by omega)).trans ((q_zc (by omega)).trans ((q_up_c (by omega)).trans ((q_zc (by omega)).trans ((q_up_c (by omega)).trans ((q_zc (by omega)).trans ((q_up_c (by omega)).trans ((q_zc (by omega)).trans ((q_up_c (by omega)).trans ((q_zc (by omega)).trans ((q_up_c (by omega)).trans ((q_zc (by omega)).trans ((q_up_c (by omega)).trans (q_zc (by omega)))))))))))))))))
def ct13r (rf : qm) : qm := (q_up (q_z (q_up (q_z (q_up (q_z (q_up (q_z (q_up (q_z (q_up (q_z (q_up (q_z (q_up (q_z rf 81 (-1)) 80 0 81) 82 (-1)) 80 1 82) 83 (-1)) 80 2 83) 84 (-1)) 80 3 84) 85 (-1)) 80 4 85) 86 (-1)) 80 5 86) 87 (-1)) 80 6 87) 88 (-1)) 80 7 88)
def ct13m (mem : qm) : qm := (q_z (q_z (q_z (q_z (q_z (q_z (q_z (q_z mem 81 0) 82 0) 83 0) 84 0) 85 0) 86 0) 87 0) 88 0)
set_option maxRecDepth 20000 in
theorem ct13 {rf mem : qm} : q_Ev yX7_init cX7_init 1 none 1 8 628 [(2, 80)] ((q_sh0.take 81), rf, mem) (fun _ σ => σ = ((q_sh0.take 89), ct13r rf, ct13m mem)) := by
  refine q_enter (by decide +kernel) (by simp) (by decide) ?_
  show q_At yX7_init cX7_init 1 none 1 8 628 _ 0 [(2, 80)] [] ((q_sh0.take 81), rf, mem)
  refine q_aload_n dX7_init_0 rfl rfl ?_
  refine q_objInit dX7_init_1 tw69 tw28 tw29 (by decide) (Nat.le_of_ble_eq_true rfl) ?_
  refine q_aload_n dX7_init_4 rfl rfl ?_
  refine qx_sipush dX7_init_5 rfl rfl ?_
  refine qx_newI (kc := 7) (ks := 88) (nI := 81) (sh' := (q_sh0.take 82)) dX7_init_8 tw63 rfl rfl rfl rfl rfl rfl rfl ?_
  refine q_putRF (ci := 7) (k := 0) (ty := tyX7 0) dX7_init_10 rfl (by decide) rfl tw70 rfl rfl rfl (by decide) rfl (fun _ => ⟨rfl, rfl⟩) rfl ?_
  refine q_aload_n dX7_init_13 rfl rfl ?_
  refine qx_bipush dX7_init_14 rfl rfl ?_
  refine qx_newI (kc := 6) (ks := 79) (nI := 82) (sh' := (q_sh0.take 83)) dX7_init_16 tw63 rfl rfl rfl rfl rfl rfl rfl ?_
  refine q_putRF (ci := 7) (k := 1) (ty := tyX7 1) dX7_init_18 rfl (by decide) rfl tw71 rfl rfl rfl (by decide) rfl (fun _ => ⟨rfl, rfl⟩) rfl ?_
  refine q_aload_n dX7_init_21 rfl rfl ?_
  refine qx_bipush dX7_init_22 rfl rfl ?_
  refine qx_newI (kc := 5) (ks := 70) (nI := 83) (sh' := (q_sh0.take 84)) dX7_init_24 tw63 rfl rfl rfl rfl rfl rfl rfl ?_
  refine q_putRF (ci := 7) (k := 2) (ty := tyX7 2) dX7_init_26 rfl (by decide) rfl tw73 rfl rfl rfl (by decide) rfl (fun _ => ⟨rfl, rfl⟩) rfl ?_
  refine q_aload_n dX7_init_29 rfl rfl ?_
  refine qx_bipush dX7_init_30 rfl rfl ?_
  refine qx_newI (kc := 4) (ks := 61) (nI := 84) (sh' := (q_sh0.take 85)) dX7_init_32 tw63 rfl rfl rfl rfl rfl rfl rfl ?_
  refine q_putRF (ci := 7) (k := 3) (ty := tyX7 3) dX7_init_34 rfl (by decide) rfl tw79 rfl rfl rfl (by decide) rfl (fun _ => ⟨rfl, rfl⟩) rfl ?_
  refine q_aload_n dX7_init_37 rfl rfl ?_
  refine qx_bipush dX7_init_38 rfl rfl ?_
  refine qx_newI (kc := 3) (ks := 52) (nI := 85) (sh' := (q_sh0.take 86)) dX7_init_40 tw63 rfl rfl rfl rfl rfl rfl rfl ?_
  refine q_putRF (ci := 7) (k := 4) (ty := tyX7 4) dX7_init_42 rfl (by decide) rfl tw84 rfl rfl rfl (by decide) rfl (fun _ => ⟨rfl, rfl⟩) rfl ?_
  refine q_aload_n dX7_init_45 rfl rfl ?_
  refine qx_bipush dX7_init_46 rfl rfl ?_
  refine qx_newI (kc := 2) (ks := 43) (nI := 86) (sh' := (q_sh0.take 87)) dX7_init_48 tw63 rfl rfl rfl rfl rfl rfl rfl ?_
  refine q_putRF (ci := 7) (k := 5) (ty := tyX7 5) dX7_init_50 rfl (by decide) rfl tw89 rfl rfl rfl (by decide) rfl (fun _ => ⟨rfl, rfl⟩) rfl ?_
  refine q_aload_n dX7_init_53 rfl rfl ?_
  refine qx_bipush dX7_init_54 rfl rfl ?_
  refine qx_newI (kc := 1) (ks := 7) (nI := 87) (sh' := (q_sh0.take 88)) dX7_init_56 tw63 rfl rfl rfl rfl rfl rfl rfl ?_
  refine q_putRF (ci := 7) (k := 6) (ty := tyX7 6) dX7_init_58 rfl (by decide) rfl tw94 rfl rfl rfl (by decide) rfl (fun _ => ⟨rfl, rfl⟩) rfl ?_
  refine q_aload_n dX7_init_61 rfl rfl ?_
  refine qx_bipush dX7_init_62 rfl rfl ?_
  refine qx_newI (kc := 0) (ks := 0) (nI := 88) (sh' := (q_sh0.take 89)) dX7_init_64 tw63 rfl rfl rfl rfl rfl rfl rfl ?_
  refine q_putRF (ci := 7) (k := 7) (ty := tyX7 7) dX7_init_66 rfl (by decide) rfl tw98 rfl rfl rfl (by decide) rfl (fun _ => ⟨rfl, rfl⟩) rfl ?_
  exact q_vret dX7_init_69 rfl
theorem ct13r_c {rf : qm} {c i : Int} (h : c < 80 ∧ 0 ≤ c) : ct13r rf c i = rf c i := by
  exact ((q_up_c (by omega)).trans ((q_zc (by omega)).trans ((q_up_c (by omega)).trans ((q_zc (by omega)).trans ((q_up_c (by omega)).trans ((q_zc (by omega)).trans ((q_up_c (by omega)).trans ((q_zc (by omega)).trans ((q_up_c (by omega)).trans ((q_zc (by omega)).trans ((q_up_c (by omega)).trans ((q_zc (by omega)).trans ((q_up_c (by omega)).trans ((q_zc (by omega)).trans ((q_up_c (by omega)).trans (q_zc (by omega)))))))))))))))))
def ct14r (rf : qm) : qm := (q_up (q_z (q_up (q_z (q_up (q_z (q_up (q_z (q_up (q_z (q_up (q_z (q_up (q_z (q_up (q_z rf 90 (-1)) 89 0 90) 91 (-1)) 89 1 91) 92 (-1)) 89 2 92) 93 (-1)) 89 3 93) 94 (-1)) 89 4 94) 95 (-1)) 89 5 95) 96 (-1)) 89 6 96) 97 (-1)) 89 7 97)
def ct14m (mem : qm) : qm := (q_z (q_z (q_z (q_z (q_z (q_z (q_z (q_z mem 90 0) 91 0) 92 0) 93 0) 94 0) 95 0) 96 0) 97 0)
set_option maxRecDepth 20000 in
theorem ct14 {rf mem : qm} : q_Ev yX7_init cX7_init 1 none 1 8 628 [(2, 89)] ((q_sh0.take 90), rf, mem) (fun _ σ => σ = ((q_sh0.take 98), ct14r rf, ct14m mem)) := by
  refine q_enter (by decide +kernel) (by simp) (by decide) ?_
  show q_At yX7_init cX7_init 1 none 1 8 628 _ 0 [(2, 89)] [] ((q_sh0.take 90), rf, mem)
  refine q_aload_n dX7_init_0 rfl rfl ?_
  refine q_objInit dX7_init_1 tw69 tw28 tw29 (by decide) (Nat.le_of_ble_eq_true rfl) ?_
  refine q_aload_n dX7_init_4 rfl rfl ?_
  refine qx_sipush dX7_init_5 rfl rfl ?_
  refine qx_newI (kc := 7) (ks := 88) (nI := 90) (sh' := (q_sh0.take 91)) dX7_init_8 tw63 rfl rfl rfl rfl rfl rfl rfl ?_
  refine q_putRF (ci := 7) (k := 0) (ty := tyX7 0) dX7_init_10 rfl (by decide) rfl tw70 rfl rfl rfl (by decide) rfl (fun _ => ⟨rfl, rfl⟩) rfl ?_
  refine q_aload_n dX7_init_13 rfl rfl ?_
  refine qx_bipush dX7_init_14 rfl rfl ?_
  refine qx_newI (kc := 6) (ks := 79) (nI := 91) (sh' := (q_sh0.take 92)) dX7_init_16 tw63 rfl rfl rfl rfl rfl rfl rfl ?_
  refine q_putRF (ci := 7) (k := 1) (ty := tyX7 1) dX7_init_18 rfl (by decide) rfl tw71 rfl rfl rfl (by decide) rfl (fun _ => ⟨rfl, rfl⟩) rfl ?_
  refine q_aload_n dX7_init_21 rfl rfl ?_
  refine qx_bipush dX7_init_22 rfl rfl ?_
  refine qx_newI (kc := 5) (ks := 70) (nI := 92) (sh' := (q_sh0.take 93)) dX7_init_24 tw63 rfl rfl rfl rfl rfl rfl rfl ?_
  refine q_putRF (ci := 7) (k := 2) (ty := tyX7 2) dX7_init_26 rfl (by decide) rfl tw73 rfl rfl rfl (by decide) rfl (fun _ => ⟨rfl, rfl⟩) rfl ?_
  refine q_aload_n dX7_init_29 rfl rfl ?_
  refine qx_bipush dX7_init_30 rfl rfl ?_
  refine qx_newI (kc := 4) (ks := 61) (nI := 93) (sh' := (q_sh0.take 94)) dX7_init_32 tw63 rfl rfl rfl rfl rfl rfl rfl ?_
  refine q_putRF (ci := 7) (k := 3) (ty := tyX7 3) dX7_init_34 rfl (by decide) rfl tw79 rfl rfl rfl (by decide) rfl (fun _ => ⟨rfl, rfl⟩) rfl ?_
  refine q_aload_n dX7_init_37 rfl rfl ?_
  refine qx_bipush dX7_init_38 rfl rfl ?_
  refine qx_newI (kc := 3) (ks := 52) (nI := 94) (sh' := (q_sh0.take 95)) dX7_init_40 tw63 rfl rfl rfl rfl rfl rfl rfl ?_
  refine q_putRF (ci := 7) (k := 4) (ty := tyX7 4) dX7_init_42 rfl (by decide) rfl tw84 rfl rfl rfl (by decide) rfl (fun _ => ⟨rfl, rfl⟩) rfl ?_
  refine q_aload_n dX7_init_45 rfl rfl ?_
  refine qx_bipush dX7_init_46 rfl rfl ?_
  refine qx_newI (kc := 2) (ks := 43) (nI := 95) (sh' := (q_sh0.take 96)) dX7_init_48 tw63 rfl rfl rfl rfl rfl rfl rfl ?_
  refine q_putRF (ci := 7) (k := 5) (ty := tyX7 5) dX7_init_50 rfl (by decide) rfl tw89 rfl rfl rfl (by decide) rfl (fun _ => ⟨rfl, rfl⟩) rfl ?_
  refine q_aload_n dX7_init_53 rfl rfl ?_
  refine qx_bipush dX7_init_54 rfl rfl ?_
  refine qx_newI (kc := 1) (ks := 7) (nI := 96) (sh' := (q_sh0.take 97)) dX7_init_56 tw63 rfl rfl rfl rfl rfl rfl rfl ?_
  refine q_putRF (ci := 7) (k := 6) (ty := tyX7 6) dX7_init_58 rfl (by decide) rfl tw94 rfl rfl rfl (by decide) rfl (fun _ => ⟨rfl, rfl⟩) rfl ?_
  refine q_aload_n dX7_init_61 rfl rfl ?_
  refine qx_bipush dX7_init_62 rfl rfl ?_
  refine qx_newI (kc := 0) (ks := 0) (nI := 97) (sh' := (q_sh0.take 98)) dX7_init_64 tw63 rfl rfl rfl rfl rfl rfl rfl ?_
  refine q_putRF (ci := 7) (k := 7) (ty := tyX7 7) dX7_init_66 rfl (by decide) rfl tw98 rfl rfl rfl (by decide) rfl (fun _ => ⟨rfl, rfl⟩) rfl ?_
  exact q_vret dX7_init_69 rfl
theorem ct14r_c {rf : qm} {c i : Int} (h : c < 89 ∧ 0 ≤ c) : ct14r rf c i = rf c i := by
  exact ((q_up_c (by omega)).trans ((q_zc (by omega)).trans ((q_up_c (by omega)).trans ((q_zc (by omega)).trans ((q_up_c (by omega)).trans ((q_zc (by omega)).trans ((q_up_c (by omega)).trans ((q_zc (by omega)).trans ((q_up_c (by omega)).trans ((q_zc (by omega)).trans ((q_up_c (by omega)).trans ((q_zc (by omega)).trans ((q_up_c (by omega)).trans ((q_zc (by omega)).trans ((q_up_c (by omega)).trans (q_zc (by omega)))))))))))))))))
def ct15r (rf : qm) : qm := (q_up (q_z (q_up (q_z (q_up (q_z (q_up (q_z (q_up (q_z (q_up (q_z (q_up (q_z (q_up (q_z rf 99 (-1)) 98 0 99) 100 (-1)) 98 1 100) 101 (-1)) 98 2 101) 102 (-1)) 98 3 102) 103 (-1)) 98 4 103) 104 (-1)) 98 5 104) 105 (-1)) 98 6 105) 106 (-1)) 98 7 106)
def ct15m (mem : qm) : qm := (q_z (q_z (q_z (q_z (q_z (q_z (q_z (q_z mem 99 0) 100 0) 101 0) 102 0) 103 0) 104 0) 105 0) 106 0)
set_option maxRecDepth 20000 in
theorem ct15 {rf mem : qm} : q_Ev yX7_init cX7_init 1 none 1 8 628 [(2, 98)] ((q_sh0.take 99), rf, mem) (fun _ σ => σ = ((q_sh0.take 107), ct15r rf, ct15m mem)) := by
  refine q_enter (by decide +kernel) (by simp) (by decide) ?_
  show q_At yX7_init cX7_init 1 none 1 8 628 _ 0 [(2, 98)] [] ((q_sh0.take 99), rf, mem)
  refine q_aload_n dX7_init_0 rfl rfl ?_
  refine q_objInit dX7_init_1 tw69 tw28 tw29 (by decide) (Nat.le_of_ble_eq_true rfl) ?_
  refine q_aload_n dX7_init_4 rfl rfl ?_
  refine qx_sipush dX7_init_5 rfl rfl ?_
  refine qx_newI (kc := 7) (ks := 88) (nI := 99) (sh' := (q_sh0.take 100)) dX7_init_8 tw63 rfl rfl rfl rfl rfl rfl rfl ?_
  refine q_putRF (ci := 7) (k := 0) (ty := tyX7 0) dX7_init_10 rfl (by decide) rfl tw70 rfl rfl rfl (by decide) rfl (fun _ => ⟨rfl, rfl⟩) rfl ?_
  refine q_aload_n dX7_init_13 rfl rfl ?_
  refine qx_bipush dX7_init_14 rfl rfl ?_
  refine qx_newI (kc := 6) (ks := 79) (nI := 100) (sh' := (q_sh0.take 101)) dX7_init_16 tw63 rfl rfl rfl rfl rfl rfl rfl ?_
  refine q_putRF (ci := 7) (k := 1) (ty := tyX7 1) dX7_init_18 rfl (by decide) rfl tw71 rfl rfl rfl (by decide) rfl (fun _ => ⟨rfl, rfl⟩) rfl ?_
  refine q_aload_n dX7_init_21 rfl rfl ?_
  refine qx_bipush dX7_init_22 rfl rfl ?_
  refine qx_newI (kc := 5) (ks := 70) (nI := 101) (sh' := (q_sh0.take 102)) dX7_init_24 tw63 rfl rfl rfl rfl rfl rfl rfl ?_
  refine q_putRF (ci := 7) (k := 2) (ty := tyX7 2) dX7_init_26 rfl (by decide) rfl tw73 rfl rfl rfl (by decide) rfl (fun _ => ⟨rfl, rfl⟩) rfl ?_
  refine q_aload_n dX7_init_29 rfl rfl ?_
  refine qx_bipush dX7_init_30 rfl rfl ?_
  refine qx_newI (kc := 4) (ks := 61) (nI := 102) (sh' := (q_sh0.take 103)) dX7_init_32 tw63 rfl rfl rfl rfl rfl rfl rfl ?_
  refine q_putRF (ci := 7) (k := 3) (ty := tyX7 3) dX7_init_34 rfl (by decide) rfl tw79 rfl rfl rfl (by decide) rfl (fun _ => ⟨rfl, rfl⟩) rfl ?_
  refine q_aload_n dX7_init_37 rfl rfl ?_
  refine qx_bipush dX7_init_38 rfl rfl ?_
  refine qx_newI (kc := 3) (ks := 52) (nI := 103) (sh' := (q_sh0.take 104)) dX7_init_40 tw63 rfl rfl rfl rfl rfl rfl rfl ?_
  refine q_putRF (ci := 7) (k := 4) (ty := tyX7 4) dX7_init_42 rfl (by decide) rfl tw84 rfl rfl rfl (by decide) rfl (fun _ => ⟨rfl, rfl⟩) rfl ?_
  refine q_aload_n dX7_init_45 rfl rfl ?_
  refine qx_bipush dX7_init_46 rfl rfl ?_
  refine qx_newI (kc := 2) (ks := 43) (nI := 104) (sh' := (q_sh0.take 105)) dX7_init_48 tw63 rfl rfl rfl rfl rfl rfl rfl ?_
  refine q_putRF (ci := 7) (k := 5) (ty := tyX7 5) dX7_init_50 rfl (by decide) rfl tw89 rfl rfl rfl (by decide) rfl (fun _ => ⟨rfl, rfl⟩) rfl ?_
  refine q_aload_n dX7_init_53 rfl rfl ?_
  refine qx_bipush dX7_init_54 rfl rfl ?_
  refine qx_newI (kc := 1) (ks := 7) (nI := 105) (sh' := (q_sh0.take 106)) dX7_init_56 tw63 rfl rfl rfl rfl rfl rfl rfl ?_
  refine q_putRF (ci := 7) (k := 6) (ty := tyX7 6) dX7_init_58 rfl (by decide) rfl tw94 rfl rfl rfl (by decide) rfl (fun _ => ⟨rfl, rfl⟩) rfl ?_
  refine q_aload_n dX7_init_61 rfl rfl ?_
  refine qx_bipush dX7_init_62 rfl rfl ?_
  refine qx_newI (kc := 0) (ks := 0) (nI := 106) (sh' := (q_sh0.take 107)) dX7_init_64 tw63 rfl rfl rfl rfl rfl rfl rfl ?_
  refine q_putRF (ci := 7) (k := 7) (ty := tyX7 7) dX7_init_66 rfl (by decide) rfl tw98 rfl rfl rfl (by decide) rfl (fun _ => ⟨rfl, rfl⟩) rfl ?_
  exact q_vret dX7_init_69 rfl
theorem ct15r_c {rf : qm} {c i : Int} (h : c < 98 ∧ 0 ≤ c) : ct15r rf c i = rf c i := by
  exact ((q_up_c (by omega)).trans ((q_zc (by omega)).trans ((q_up_c (by omega)).trans ((q_zc (by omega)).trans ((q_up_c (by omega)).trans ((q_zc (by omega)).trans ((q_up_c (by omega)).trans ((q_zc (by omega)).trans ((q_up_c (by omega)).trans ((q_zc (by omega)).trans ((q_up_c (by omega)).trans ((q_zc (by omega)).trans ((q_up_c (by omega)).trans ((q_zc (by omega)).trans ((q_up_c (by omega)).trans (q_zc (by omega)))))))))))))))))
def ct16r (rf : qm) : qm := (q_up (q_z (q_up (q_z (q_up (q_z (q_up (q_z (q_up (q_z (q_up (q_z (q_up (q_z (q_up (q_z rf 108 (-1)) 107 0 108) 109 (-1)) 107 1 109) 110 (-1)) 107 2 110) 111 (-1)) 107 3 111) 112 (-1)) 107 4 112) 113 (-1)) 107 5 113) 114 (-1)) 107 6 114) 115 (-1)) 107 7 115)
def ct16m (mem : qm) : qm := (q_z (q_z (q_z (q_z (q_z (q_z (q_z (q_z mem 108 0) 109 0) 110 0) 111 0) 112 0) 113 0) 114 0) 115 0)
set_option maxRecDepth 20000 in
theorem ct16 {rf mem : qm} : q_Ev yX7_init cX7_init 1 none 1 8 628 [(2, 107)] ((q_sh0.take 108), rf, mem) (fun _ σ => σ = ((q_sh0.take 116), ct16r rf, ct16m mem)) := by
  refine q_enter (by decide +kernel) (by simp) (by decide) ?_
  show q_At yX7_init cX7_init 1 none 1 8 628 _ 0 [(2, 107)] [] ((q_sh0.take 108), rf, mem)
  refine q_aload_n dX7_init_0 rfl rfl ?_
  refine q_objInit dX7_init_1 tw69 tw28 tw29 (by decide) (Nat.le_of_ble_eq_true rfl) ?_
  refine q_aload_n dX7_init_4 rfl rfl ?_
  refine qx_sipush dX7_init_5 rfl rfl ?_
  refine qx_newI (kc := 7) (ks := 88) (nI := 108) (sh' := (q_sh0.take 109)) dX7_init_8 tw63 rfl rfl rfl rfl rfl rfl rfl ?_
  refine q_putRF (ci := 7) (k := 0) (ty := tyX7 0) dX7_init_10 rfl (by decide) rfl tw70 rfl rfl rfl (by decide) rfl (fun _ => ⟨rfl, rfl⟩) rfl ?_
  refine q_aload_n dX7_init_13 rfl rfl ?_
  refine qx_bipush dX7_init_14 rfl rfl ?_
  refine qx_newI (kc := 6) (ks := 79) (nI := 109) (sh' := (q_sh0.take 110)) dX7_init_16 tw63 rfl rfl rfl rfl rfl rfl rfl ?_
  refine q_putRF (ci := 7) (k := 1) (ty := tyX7 1) dX7_init_18 rfl (by decide) rfl tw71 rfl rfl rfl (by decide) rfl (fun _ => ⟨rfl, rfl⟩) rfl ?_
  refine q_aload_n dX7_init_21 rfl rfl ?_
  refine qx_bipush dX7_init_22 rfl rfl ?_
  refine qx_newI (kc := 5) (ks := 70) (nI := 110) (sh' := (q_sh0.take 111)) dX7_init_24 tw63 rfl rfl rfl rfl rfl rfl rfl ?_
  refine q_putRF (ci := 7) (k := 2) (ty := tyX7 2) dX7_init_26 rfl (by decide) rfl tw73 rfl rfl rfl (by decide) rfl (fun _ => ⟨rfl, rfl⟩) rfl ?_
  refine q_aload_n dX7_init_29 rfl rfl ?_
  refine qx_bipush dX7_init_30 rfl rfl ?_
  refine qx_newI (kc := 4) (ks := 61) (nI := 111) (sh' := (q_sh0.take 112)) dX7_init_32 tw63 rfl rfl rfl rfl rfl rfl rfl ?_
  refine q_putRF (ci := 7) (k := 3) (ty := tyX7 3) dX7_init_34 rfl (by decide) rfl tw79 rfl rfl rfl (by decide) rfl (fun _ => ⟨rfl, rfl⟩) rfl ?_
  refine q_aload_n dX7_init_37 rfl rfl ?_
  refine qx_bipush dX7_init_38 rfl rfl ?_
  refine qx_newI (kc := 3) (ks := 52) (nI := 112) (sh' := (q_sh0.take 113)) dX7_init_40 tw63 rfl rfl rfl rfl rfl rfl rfl ?_
  refine q_putRF (ci := 7) (k := 4) (ty := tyX7 4) dX7_init_42 rfl (by decide) rfl tw84 rfl rfl rfl (by decide) rfl (fun _ => ⟨rfl, rfl⟩) rfl ?_
  refine q_aload_n dX7_init_45 rfl rfl ?_
  refine qx_bipush dX7_init_46 rfl rfl ?_
  refine qx_newI (kc := 2) (ks := 43) (nI := 113) (sh' := (q_sh0.take 114)) dX7_init_48 tw63 rfl rfl rfl rfl rfl rfl rfl ?_
  refine q_putRF (ci := 7) (k := 5) (ty := tyX7 5) dX7_init_50 rfl (by decide) rfl tw89 rfl rfl rfl (by decide) rfl (fun _ => ⟨rfl, rfl⟩) rfl ?_
  refine q_aload_n dX7_init_53 rfl rfl ?_
  refine qx_bipush dX7_init_54 rfl rfl ?_
  refine qx_newI (kc := 1) (ks := 7) (nI := 114) (sh' := (q_sh0.take 115)) dX7_init_56 tw63 rfl rfl rfl rfl rfl rfl rfl ?_
  refine q_putRF (ci := 7) (k := 6) (ty := tyX7 6) dX7_init_58 rfl (by decide) rfl tw94 rfl rfl rfl (by decide) rfl (fun _ => ⟨rfl, rfl⟩) rfl ?_
  refine q_aload_n dX7_init_61 rfl rfl ?_
  refine qx_bipush dX7_init_62 rfl rfl ?_
  refine qx_newI (kc := 0) (ks := 0) (nI := 115) (sh' := (q_sh0.take 116)) dX7_init_64 tw63 rfl rfl rfl rfl rfl rfl rfl ?_
  refine q_putRF (ci := 7) (k := 7) (ty := tyX7 7) dX7_init_66 rfl (by decide) rfl tw98 rfl rfl rfl (by decide) rfl (fun _ => ⟨rfl, rfl⟩) rfl ?_
  exact q_vret dX7_init_69 rfl
theorem ct16r_c {rf : qm} {c i : Int} (h : c < 107 ∧ 0 ≤ c) : ct16r rf c i = rf c i := by
  exact ((q_up_c (by omega)).trans ((q_zc (by omega)).trans ((q_up_c (by omega)).trans ((q_zc (by omega)).trans ((q_up_c (by omega)).trans ((q_zc (by omega)).trans ((q_up_c (by omega)).trans ((q_zc (by omega)).trans ((q_up_c (by omega)).trans ((q_zc (by omega)).trans ((q_up_c (by omega)).trans ((q_zc (by omega)).trans ((q_up_c (by omega)).trans ((q_zc (by omega)).trans ((q_up_c (by omega)).trans (q_zc (by omega)))))))))))))))))
def ct17r (rf : qm) : qm := (q_up (q_z (q_up (q_z (q_up (q_z (q_up (q_z (q_up (q_z (q_up (q_z (q_up (q_z (q_up (q_z rf 117 (-1)) 116 0 117) 118 (-1)) 116 1 118) 119 (-1)) 116 2 119) 120 (-1)) 116 3 120) 121 (-1)) 116 4 121) 122 (-1)) 116 5 122) 123 (-1)) 116 6 123) 124 (-1)) 116 7 124)
def ct17m (mem : qm) : qm := (q_z (q_z (q_z (q_z (q_z (q_z (q_z (q_z mem 117 0) 118 0) 119 0) 120 0) 121 0) 122 0) 123 0) 124 0)
set_option maxRecDepth 20000 in
theorem ct17 {rf mem : qm} : q_Ev yX7_init cX7_init 1 none 1 8 628 [(2, 116)] ((q_sh0.take 117), rf, mem) (fun _ σ => σ = ((q_sh0.take 125), ct17r rf, ct17m mem)) := by
  refine q_enter (by decide +kernel) (by simp) (by decide) ?_
  show q_At yX7_init cX7_init 1 none 1 8 628 _ 0 [(2, 116)] [] ((q_sh0.take 117), rf, mem)
  refine q_aload_n dX7_init_0 rfl rfl ?_
  refine q_objInit dX7_init_1 tw69 tw28 tw29 (by decide) (Nat.le_of_ble_eq_true rfl) ?_
  refine q_aload_n dX7_init_4 rfl rfl ?_
  refine qx_sipush dX7_init_5 rfl rfl ?_
  refine qx_newI (kc := 7) (ks := 88) (nI := 117) (sh' := (q_sh0.take 118)) dX7_init_8 tw63 rfl rfl rfl rfl rfl rfl rfl ?_
  refine q_putRF (ci := 7) (k := 0) (ty := tyX7 0) dX7_init_10 rfl (by decide) rfl tw70 rfl rfl rfl (by decide) rfl (fun _ => ⟨rfl, rfl⟩) rfl ?_
  refine q_aload_n dX7_init_13 rfl rfl ?_
  refine qx_bipush dX7_init_14 rfl rfl ?_
  refine qx_newI (kc := 6) (ks := 79) (nI := 118) (sh' := (q_sh0.take 119)) dX7_init_16 tw63 rfl rfl rfl rfl rfl rfl rfl ?_
  refine q_putRF (ci := 7) (k := 1) (ty := tyX7 1) dX7_init_18 rfl (by decide) rfl tw71 rfl rfl rfl (by decide) rfl (fun _ => ⟨rfl, rfl⟩) rfl ?_
  refine q_aload_n dX7_init_21 rfl rfl ?_
  refine qx_bipush dX7_init_22 rfl rfl ?_
  refine qx_newI (kc := 5) (ks := 70) (nI := 119) (sh' := (q_sh0.take 120)) dX7_init_24 tw63 rfl rfl rfl rfl rfl rfl rfl ?_
  refine q_putRF (ci := 7) (k := 2) (ty := tyX7 2) dX7_init_26 rfl (by decide) rfl tw73 rfl rfl rfl (by decide) rfl (fun _ => ⟨rfl, rfl⟩) rfl ?_
  refine q_aload_n dX7_init_29 rfl rfl ?_
  refine qx_bipush dX7_init_30 rfl rfl ?_
  refine qx_newI (kc := 4) (ks := 61) (nI := 120) (sh' := (q_sh0.take 121)) dX7_init_32 tw63 rfl rfl rfl rfl rfl rfl rfl ?_
  refine q_putRF (ci := 7) (k := 3) (ty := tyX7 3) dX7_init_34 rfl (by decide) rfl tw79 rfl rfl rfl (by decide) rfl (fun _ => ⟨rfl, rfl⟩) rfl ?_
  refine q_aload_n dX7_init_37 rfl rfl ?_
  refine qx_bipush dX7_init_38 rfl rfl ?_
  refine qx_newI (kc := 3) (ks := 52) (nI := 121) (sh' := (q_sh0.take 122)) dX7_init_40 tw63 rfl rfl rfl rfl rfl rfl rfl ?_
  refine q_putRF (ci := 7) (k := 4) (ty := tyX7 4) dX7_init_42 rfl (by decide) rfl tw84 rfl rfl rfl (by decide) rfl (fun _ => ⟨rfl, rfl⟩) rfl ?_
  refine q_aload_n dX7_init_45 rfl rfl ?_
  refine qx_bipush dX7_init_46 rfl rfl ?_
  refine qx_newI (kc := 2) (ks := 43) (nI := 122) (sh' := (q_sh0.take 123)) dX7_init_48 tw63 rfl rfl rfl rfl rfl rfl rfl ?_
  refine q_putRF (ci := 7) (k := 5) (ty := tyX7 5) dX7_init_50 rfl (by decide) rfl tw89 rfl rfl rfl (by decide) rfl (fun _ => ⟨rfl, rfl⟩) rfl ?_
  refine q_aload_n dX7_init_53 rfl rfl ?_
  refine qx_bipush dX7_init_54 rfl rfl ?_
  refine qx_newI (kc := 1) (ks := 7) (nI := 123) (sh' := (q_sh0.take 124)) dX7_init_56 tw63 rfl rfl rfl rfl rfl rfl rfl ?_
  refine q_putRF (ci := 7) (k := 6) (ty := tyX7 6) dX7_init_58 rfl (by decide) rfl tw94 rfl rfl rfl (by decide) rfl (fun _ => ⟨rfl, rfl⟩) rfl ?_
  refine q_aload_n dX7_init_61 rfl rfl ?_
  refine qx_bipush dX7_init_62 rfl rfl ?_
  refine qx_newI (kc := 0) (ks := 0) (nI := 124) (sh' := (q_sh0.take 125)) dX7_init_64 tw63 rfl rfl rfl rfl rfl rfl rfl ?_
  refine q_putRF (ci := 7) (k := 7) (ty := tyX7 7) dX7_init_66 rfl (by decide) rfl tw98 rfl rfl rfl (by decide) rfl (fun _ => ⟨rfl, rfl⟩) rfl ?_
  exact q_vret dX7_init_69 rfl
theorem ct17r_c {rf : qm} {c i : Int} (h : c < 116 ∧ 0 ≤ c) : ct17r rf c i = rf c i := by
  exact ((q_up_c (by omega)).trans ((q_zc (by omega)).trans ((q_up_c (by omega)).trans ((q_zc (by omega)).trans ((q_up_c (by omega)).trans ((q_zc (by omega)).trans ((q_up_c (by omega)).trans ((q_zc (by omega)).trans ((q_up_c (by omega)).trans ((q_zc (by omega)).trans ((q_up_c (by omega)).trans ((q_zc (by omega)).trans ((q_up_c (by omega)).trans ((q_zc (by omega)).trans ((q_up_c (by omega)).trans (q_zc (by omega)))))))))))))))))
def ct18r (rf : qm) : qm := (q_up (q_z (q_up (q_z (q_up (q_z (q_up (q_z (q_up (q_z (q_up (q_z (q_up (q_z (q_up (q_z rf 126 (-1)) 125 0 126) 127 (-1)) 125 1 127) 128 (-1)) 125 2 128) 129 (-1)) 125 3 129) 130 (-1)) 125 4 130) 131 (-1)) 125 5 131) 132 (-1)) 125 6 132) 133 (-1)) 125 7 133)
def ct18m (mem : qm) : qm := (q_z (q_z (q_z (q_z (q_z (q_z (q_z (q_z mem 126 0) 127 0) 128 0) 129 0) 130 0) 131 0) 132 0) 133 0)
set_option maxRecDepth 20000 in
theorem ct18 {rf mem : qm} : q_Ev yX7_init cX7_init 1 none 1 8 628 [(2, 125)] ((q_sh0.take 126), rf, mem) (fun _ σ => σ = ((q_sh0.take 134), ct18r rf, ct18m mem)) := by
  refine q_enter (by decide +kernel) (by simp) (by decide) ?_
  show q_At yX7_init cX7_init 1 none 1 8 628 _ 0 [(2, 125)] [] ((q_sh0.take 126), rf, mem)
  refine q_aload_n dX7_init_0 rfl rfl ?_
  refine q_objInit dX7_init_1 tw69 tw28 tw29 (by decide) (Nat.le_of_ble_eq_true rfl) ?_
  refine q_aload_n dX7_init_4 rfl rfl ?_
  refine qx_sipush dX7_init_5 rfl rfl ?_
  refine qx_newI (kc := 7) (ks := 88) (nI := 126) (sh' := (q_sh0.take 127)) dX7_init_8 tw63 rfl rfl rfl rfl rfl rfl rfl ?_
  refine q_putRF (ci := 7) (k := 0) (ty := tyX7 0) dX7_init_10 rfl (by decide) rfl tw70 rfl rfl rfl (by decide) rfl (fun _ => ⟨rfl, rfl⟩) rfl ?_
  refine q_aload_n dX7_init_13 rfl rfl ?_
  refine qx_bipush dX7_init_14 rfl rfl ?_
  refine qx_newI (kc := 6) (ks := 79) (nI := 127) (sh' := (q_sh0.take 128)) dX7_init_16 tw63 rfl rfl rfl rfl rfl rfl rfl ?_
  refine q_putRF (ci := 7) (k := 1) (ty := tyX7 1) dX7_init_18 rfl (by decide) rfl tw71 rfl rfl rfl (by decide) rfl (fun _ => ⟨rfl, rfl⟩) rfl ?_
  refine q_aload_n dX7_init_21 rfl rfl ?_
  refine qx_bipush dX7_init_22 rfl rfl ?_
  refine qx_newI (kc := 5) (ks := 70) (nI := 128) (sh' := (q_sh0.take 129)) dX7_init_24 tw63 rfl rfl rfl rfl rfl rfl rfl ?_
  refine q_putRF (ci := 7) (k := 2) (ty := tyX7 2) dX7_init_26 rfl (by decide) rfl tw73 rfl rfl rfl (by decide) rfl (fun _ => ⟨rfl, rfl⟩) rfl ?_
  refine q_aload_n dX7_init_29 rfl rfl ?_
  refine qx_bipush dX7_init_30 rfl rfl ?_
  refine qx_newI (kc := 4) (ks := 61) (nI := 129) (sh' := (q_sh0.take 130)) dX7_init_32 tw63 rfl rfl rfl rfl rfl rfl rfl ?_
  refine q_putRF (ci := 7) (k := 3) (ty := tyX7 3) dX7_init_34 rfl (by decide) rfl tw79 rfl rfl rfl (by decide) rfl (fun _ => ⟨rfl, rfl⟩) rfl ?_
  refine q_aload_n dX7_init_37 rfl rfl ?_
  refine qx_bipush dX7_init_38 rfl rfl ?_
  refine qx_newI (kc := 3) (ks := 52) (nI := 130) (sh' := (q_sh0.take 131)) dX7_init_40 tw63 rfl rfl rfl rfl rfl rfl rfl ?_
  refine q_putRF (ci := 7) (k := 4) (ty := tyX7 4) dX7_init_42 rfl (by decide) rfl tw84 rfl rfl rfl (by decide) rfl (fun _ => ⟨rfl, rfl⟩) rfl ?_
  refine q_aload_n dX7_init_45 rfl rfl ?_
  refine qx_bipush dX7_init_46 rfl rfl ?_
  refine qx_newI (kc := 2) (ks := 43) (nI := 131) (sh' := (q_sh0.take 132)) dX7_init_48 tw63 rfl rfl rfl rfl rfl rfl rfl ?_
  refine q_putRF (ci := 7) (k := 5) (ty := tyX7 5) dX7_init_50 rfl (by decide) rfl tw89 rfl rfl rfl (by decide) rfl (fun _ => ⟨rfl, rfl⟩) rfl ?_
  refine q_aload_n dX7_init_53 rfl rfl ?_
  refine qx_bipush dX7_init_54 rfl rfl ?_
  refine qx_newI (kc := 1) (ks := 7) (nI := 132) (sh' := (q_sh0.take 133)) dX7_init_56 tw63 rfl rfl rfl rfl rfl rfl rfl ?_
  refine q_putRF (ci := 7) (k := 6) (ty := tyX7 6) dX7_init_58 rfl (by decide) rfl tw94 rfl rfl rfl (by decide) rfl (fun _ => ⟨rfl, rfl⟩) rfl ?_
  refine q_aload_n dX7_init_61 rfl rfl ?_
  refine qx_bipush dX7_init_62 rfl rfl ?_
  refine qx_newI (kc := 0) (ks := 0) (nI := 133) (sh' := (q_sh0.take 134)) dX7_init_64 tw63 rfl rfl rfl rfl rfl rfl rfl ?_
  refine q_putRF (ci := 7) (k := 7) (ty := tyX7 7) dX7_init_66 rfl (by decide) rfl tw98 rfl rfl rfl (by decide) rfl (fun _ => ⟨rfl, rfl⟩) rfl ?_
  exact q_vret dX7_init_69 rfl
theorem ct18r_c {rf : qm} {c i : Int} (h : c < 125 ∧ 0 ≤ c) : ct18r rf c i = rf c i := by
  exact ((q_up_c (by omega)).trans ((q_zc (by omega)).trans ((q_up_c (by omega)).trans ((q_zc (by omega)).trans ((q_up_c (by omega)).trans ((q_zc (by omega)).trans ((q_up_c (by omega)).trans ((q_zc (by omega)).trans ((q_up_c (by omega)).trans ((q_zc (by omega)).trans ((q_up_c (by omega)).trans ((q_zc (by omega)).trans ((q_up_c (by omega)).trans ((q_zc (by omega)).trans ((q_up_c (by omega)).trans (q_zc (by omega)))))))))))))))))
def ct19r (rf : qm) : qm := (q_up (q_z (q_up (q_z (q_up (q_z (q_up (q_z (q_up (q_z (q_up (q_z (q_up (q_z (q_up (q_z rf 135 (-1)) 134 0 135) 136 (-1)) 134 1 136) 137 (-1)) 134 2 137) 138 (-1)) 134 3 138) 139 (-1)) 134 4 139) 140 (-1)) 134 5 140) 141 (-1)) 134 6 141) 142 (-1)) 134 7 142)
def ct19m (mem : qm) : qm := (q_z (q_z (q_z (q_z (q_z (q_z (q_z (q_z mem 135 0) 136 0) 137 0) 138 0) 139 0) 140 0) 141 0) 142 0)
set_option maxRecDepth 20000 in
theorem ct19 {rf mem : qm} : q_Ev yX7_init cX7_init 1 none 1 8 628 [(2, 134)] ((q_sh0.take 135), rf, mem) (fun _ σ => σ = ((q_sh0.take 143), ct19r rf, ct19m mem)) := by
  refine q_enter (by decide +kernel) (by simp) (by decide) ?_
  show q_At yX7_init cX7_init 1 none 1 8 628 _ 0 [(2, 134)] [] ((q_sh0.take 135), rf, mem)
  refine q_aload_n dX7_init_0 rfl rfl ?_
  refine q_objInit dX7_init_1 tw69 tw28 tw29 (by decide) (Nat.le_of_ble_eq_true rfl) ?_
  refine q_aload_n dX7_init_4 rfl rfl ?_
  refine qx_sipush dX7_init_5 rfl rfl ?_
  refine qx_newI (kc := 7) (ks := 88) (nI := 135) (sh' := (q_sh0.take 136)) dX7_init_8 tw63 rfl rfl rfl rfl rfl rfl rfl ?_
  refine q_putRF (ci := 7) (k := 0) (ty := tyX7 0) dX7_init_10 rfl (by decide) rfl tw70 rfl rfl rfl (by decide) rfl (fun _ => ⟨rfl, rfl⟩) rfl ?_
  refine q_aload_n dX7_init_13 rfl rfl ?_
  refine qx_bipush dX7_init_14 rfl rfl ?_
  refine qx_newI (kc := 6) (ks := 79) (nI := 136) (sh' := (q_sh0.take 137)) dX7_init_16 tw63 rfl rfl rfl rfl rfl rfl rfl ?_
  refine q_putRF (ci := 7) (k := 1) (ty := tyX7 1) dX7_init_18 rfl (by decide) rfl tw71 rfl rfl rfl (by decide) rfl (fun _ => ⟨rfl, rfl⟩) rfl ?_
  refine q_aload_n dX7_init_21 rfl rfl ?_
  refine qx_bipush dX7_init_22 rfl rfl ?_
  refine qx_newI (kc := 5) (ks := 70) (nI := 137) (sh' := (q_sh0.take 138)) dX7_init_24 tw63 rfl rfl rfl rfl rfl rfl rfl ?_
  refine q_putRF (ci := 7) (k := 2) (ty := tyX7 2) dX7_init_26 rfl (by decide) rfl tw73 rfl rfl rfl (by decide) rfl (fun _ => ⟨rfl, rfl⟩) rfl ?_
  refine q_aload_n dX7_init_29 rfl rfl ?_
  refine qx_bipush dX7_init_30 rfl rfl ?_
  refine qx_newI (kc := 4) (ks := 61) (nI := 138) (sh' := (q_sh0.take 139)) dX7_init_32 tw63 rfl rfl rfl rfl rfl rfl rfl ?_
  refine q_putRF (ci := 7) (k := 3) (ty := tyX7 3) dX7_init_34 rfl (by decide) rfl tw79 rfl rfl rfl (by decide) rfl (fun _ => ⟨rfl, rfl⟩) rfl ?_
  refine q_aload_n dX7_init_37 rfl rfl ?_
  refine qx_bipush dX7_init_38 rfl rfl ?_
  refine qx_newI (kc := 3) (ks := 52) (nI := 139) (sh' := (q_sh0.take 140)) dX7_init_40 tw63 rfl rfl rfl rfl rfl rfl rfl ?_
  refine q_putRF (ci := 7) (k := 4) (ty := tyX7 4) dX7_init_42 rfl (by decide) rfl tw84 rfl rfl rfl (by decide) rfl (fun _ => ⟨rfl, rfl⟩) rfl ?_
  refine q_aload_n dX7_init_45 rfl rfl ?_
  refine qx_bipush dX7_init_46 rfl rfl ?_
  refine qx_newI (kc := 2) (ks := 43) (nI := 140) (sh' := (q_sh0.take 141)) dX7_init_48 tw63 rfl rfl rfl rfl rfl rfl rfl ?_
  refine q_putRF (ci := 7) (k := 5) (ty := tyX7 5) dX7_init_50 rfl (by decide) rfl tw89 rfl rfl rfl (by decide) rfl (fun _ => ⟨rfl, rfl⟩) rfl ?_
  refine q_aload_n dX7_init_53 rfl rfl ?_
  refine qx_bipush dX7_init_54 rfl rfl ?_
  refine qx_newI (kc := 1) (ks := 7) (nI := 141) (sh' := (q_sh0.take 142)) dX7_init_56 tw63 rfl rfl rfl rfl rfl rfl rfl ?_
  refine q_putRF (ci := 7) (k := 6) (ty := tyX7 6) dX7_init_58 rfl (by decide) rfl tw94 rfl rfl rfl (by decide) rfl (fun _ => ⟨rfl, rfl⟩) rfl ?_
  refine q_aload_n dX7_init_61 rfl rfl ?_
  refine qx_bipush dX7_init_62 rfl rfl ?_
  refine qx_newI (kc := 0) (ks := 0) (nI := 142) (sh' := (q_sh0.take 143)) dX7_init_64 tw63 rfl rfl rfl rfl rfl rfl rfl ?_
  refine q_putRF (ci := 7) (k := 7) (ty := tyX7 7) dX7_init_66 rfl (by decide) rfl tw98 rfl rfl rfl (by decide) rfl (fun _ => ⟨rfl, rfl⟩) rfl ?_
  exact q_vret dX7_init_69 rfl
theorem ct19r_c {rf : qm} {c i : Int} (h : c < 134 ∧ 0 ≤ c) : ct19r rf c i = rf c i := by
  exact ((q_up_c (by omega)).trans ((q_zc (by omega)).trans ((q_up_c (by omega)).trans ((q_zc (by omega)).trans ((q_up_c (by omega)).trans ((q_zc (by omega)).trans ((q_up_c (by omega)).trans ((q_zc (by omega)).trans ((q_up_c (by omega)).trans ((q_zc (by omega)).trans ((q_up_c (by omega)).trans ((q_zc (by omega)).trans ((q_up_c (by omega)).trans ((q_zc (by omega)).trans ((q_up_c (by omega)).trans (q_zc (by omega)))))))))))))))))
def ct7r (rf : qm) : qm := (q_up (ct19r (q_z (q_up (ct18r (q_z (q_up (ct17r (q_z (q_up (ct16r (q_z (q_up (ct15r (q_z (q_up (ct14r (q_z (q_up (ct13r (q_z (q_up (ct12r (q_z (q_up (ct11r (q_z (q_up (ct10r (q_z (q_up (ct9r (q_z (q_up (ct8r (q_z (q_up (q_z rf 34 (-1)) 33 0 34) 35 (-1))) 34 0 35) 44 (-1))) 34 1 44) 53 (-1))) 34 2 53) 62 (-1))) 34 3 62) 71 (-1))) 34 4 71) 80 (-1))) 34 5 80) 89 (-1))) 34 6 89) 98 (-1))) 34 7 98) 107 (-1))) 34 8 107) 116 (-1))) 34 9 116) 125 (-1))) 34 10 125) 134 (-1))) 34 11 134)
def ct7m (mem : qm) : qm := (ct19m (q_z (ct18m (q_z (ct17m (q_z (ct16m (q_z (ct15m (q_z (ct14m (q_z (ct13m (q_z (ct12m (q_z (ct11m (q_z (ct10m (q_z (ct9m (q_z (ct8m (q_z (q_z mem 34 0) 35 0)) 44 0)) 53 0)) 62 0)) 71 0)) 80 0)) 89 0)) 98 0)) 107 0)) 116 0)) 125 0)) 134 0))
set_option maxRecDepth 20000 in
theorem ct7 {rf mem : qm} : q_Ev yX3_init cX3_init 2 none 2 109 7668 [(2, 33)] ((q_sh0.take 34), rf, mem) (fun _ σ => σ = ((q_sh0.take 143), ct7r rf, ct7m mem)) := by
  refine q_enter (by decide +kernel) (by simp) (by decide) ?_
  show q_At yX3_init cX3_init 2 none 2 109 7668 _ 0 [(2, 33), (4, 0)] [] ((q_sh0.take 34), rf, mem)
  refine q_aload_n dX3_init_0 rfl rfl ?_
  refine q_objInit dX3_init_1 tw188 tw28 tw29 (by decide) (Nat.le_of_ble_eq_true rfl) ?_
  refine q_aload_n dX3_init_4 rfl rfl ?_
  refine qx_bipush dX3_init_5 rfl rfl ?_
  refine qx_newQ (kc := 108) (ks := 7656) (nI := 34) (sh' := (q_sh0.take 35)) dX3_init_7 tw189 rfl rfl rfl rfl rfl rfl rfl ?_
  refine q_putRF (ci := 3) (k := 0) (ty := tyX3 0) dX3_init_10 rfl (by decide) rfl tw192 rfl rfl rfl (by decide) rfl (fun _ => ⟨rfl, rfl⟩) rfl ?_
  refine qx_iconst dX3_init_13 rfl rfl ?_
  refine qx_istore_n (L' := [(2, 33), (0, 0)]) dX3_init_14 rfl rfl rfl rfl ?_
  refine q_iload_n dX3_init_15 rfl rfl ?_
  refine qx_bipush dX3_init_16 rfl rfl ?_
  refine qx_icmp_ge (tgt := 40) dX3_init_18 (by decide) (fun z => absurd z (by decide)) (fun _ => ?_)
  refine q_aload_n dX3_init_21 rfl rfl ?_
  refine q_getR (ci := 3) (k := 0) (r := 34) dX3_init_22 rfl (by decide) rfl tw192 (by decide) rfl q_up_s (by decide) ?_
  refine q_iload_n dX3_init_25 rfl rfl ?_
  refine qx_new (ci := 7) (kc := 107) (ks := 7646) (nI := 35) (sh' := (q_sh0.take 36)) dX3_init_26 rfl tw189 tw65 tw3 rfl rfl rfl rfl rfl ?_
  refine q_dup dX3_init_29 (fun h => by cases h) ?_
  refine qx_invIN (kc := 99) (ks := 7018) (host := RX11) [] [(2, 35), (2, 35), (0, 0), (2, 34)] rfl qM_X7_init dX3_init_30 (by decide) rfl rfl rfl rfl rfl rfl ct8 ?_
  refine q_aast dX3_init_33 rfl (by decide) (by decide) rfl ?_
  refine qx_iinc (L' := [(2, 33), (0, 1)]) dX3_init_34 rfl rfl rfl (q_inb_ok rfl) rfl ?_
  refine q_goto (tgt := 15) dX3_init_37 (by decide) ?_
  refine q_iload_n dX3_init_15 rfl rfl ?_
  refine qx_bipush dX3_init_16 rfl rfl ?_
  refine qx_icmp_ge (tgt := 40) dX3_init_18 (by decide) (fun z => absurd z (by decide)) (fun _ => ?_)
  refine q_aload_n dX3_init_21 rfl rfl ?_
  refine q_getR (ci := 3) (k := 0) (r := 34) dX3_init_22 rfl (by decide) rfl tw192 (by decide) rfl ((q_up_c (by decide)).trans (((ct8r_c (by decide))).trans ((q_zc (by decide)).trans q_up_s))) (by decide) ?_
  refine q_iload_n dX3_init_25 rfl rfl ?_
  refine qx_new (ci := 7) (kc := 98) (ks := 7008) (nI := 44) (sh' := (q_sh0.take 45)) dX3_init_26 rfl tw189 tw65 tw3 rfl rfl rfl rfl rfl ?_
  refine q_dup dX3_init_29 (fun h => by cases h) ?_
  refine qx_invIN (kc := 90) (ks := 6380) (host := RX11) [] [(2, 44), (2, 44), (0, 1), (2, 34)] rfl qM_X7_init dX3_init_30 (by decide) rfl rfl rfl rfl rfl rfl ct9 ?_
  refine q_aast dX3_init_33 rfl (by decide) (by decide) rfl ?_
  refine qx_iinc (L' := [(2, 33), (0, 2)]) dX3_init_34 rfl rfl rfl (q_inb_ok rfl) rfl ?_
  refine q_goto (tgt := 15) dX3_init_37 (by decide) ?_
  refine q_iload_n dX3_init_15 rfl rfl ?_
  refine qx_bipush dX3_init_16 rfl rfl ?_
  refine qx_icmp_ge (tgt := 40) dX3_init_18 (by decide) (fun z => absurd z (by decide)) (fun _ => ?_)
  refine q_aload_n dX3_init_21 rfl rfl ?_
  refine q_getR (ci := 3) (k := 0) (r := 34) dX3_init_22 rfl (by decide) rfl tw192 (by decide) rfl ((q_up_c (by decide)).trans (((ct9r_c (by decide))).trans ((q_zc (by decide)).trans ((q_up_c (by decide)).trans (((ct8r_c (by decide))).trans ((q_zc (by decide)).trans q_up_s)))))) (by decide) ?_
  refine q_iload_n dX3_init_25 rfl rfl ?_
  refine qx_new (ci := 7) (kc := 89) (ks := 6370) (nI := 53) (sh' := (q_sh0.take 54)) dX3_init_26 rfl tw189 tw65 tw3 rfl rfl rfl rfl rfl ?_
  refine q_dup dX3_init_29 (fun h => by cases h) ?_
  refine qx_invIN (kc := 81) (ks := 5742) (host := RX11) [] [(2, 53), (2, 53), (0, 2), (2, 34)] rfl qM_X7_init dX3_init_30 (by decide) rfl rfl rfl rfl rfl rfl ct10 ?_
  refine q_aast dX3_init_33 rfl (by decide) (by decide) rfl ?_
  refine qx_iinc (L' := [(2, 33), (0, 3)]) dX3_init_34 rfl rfl rfl (q_inb_ok rfl) rfl ?_
  refine q_goto (tgt := 15) dX3_init_37 (by decide) ?_
  refine q_iload_n dX3_init_15 rfl rfl ?_
  refine qx_bipush dX3_init_16 rfl rfl ?_
  refine qx_icmp_ge (tgt := 40) dX3_init_18 (by decide) (fun z => absurd z (by decide)) (fun _ => ?_)
  refine q_aload_n dX3_init_21 rfl rfl ?_
  refine q_getR (ci := 3) (k := 0) (r := 34) dX3_init_22 rfl (by decide) rfl tw192 (by decide) rfl ((q_up_c (by decide)).trans (((ct10r_c (by decide))).trans ((q_zc (by decide)).trans ((q_up_c (by decide)).trans (((ct9r_c (by decide))).trans ((q_zc (by decide)).trans ((q_up_c (by decide)).trans (((ct8r_c (by decide))).trans ((q_zc (by decide)).trans q_up_s))))))))) (by decide) ?_
  refine q_iload_n dX3_init_25 rfl rfl ?_
  refine qx_new (ci := 7) (kc := 80) (ks := 5732) (nI := 62) (sh' := (q_sh0.take 63)) dX3_init_26 rfl tw189 tw65 tw3 rfl rfl rfl rfl rfl ?_
  refine q_dup dX3_init_29 (fun h => by cases h) ?_
  refine qx_invIN (kc := 72) (ks := 5104) (host := RX11) [] [(2, 62), (2, 62), (0, 3), (2, 34)] rfl qM_X7_init dX3_init_30 (by decide) rfl rfl rfl rfl rfl rfl ct11 ?_
  refine q_aast dX3_init_33 rfl (by decide) (by decide) rfl ?_
  refine qx_iinc (L' := [(2, 33), (0, 4)]) dX3_init_34 rfl rfl rfl (q_inb_ok rfl) rfl ?_
  refine q_goto (tgt := 15) dX3_init_37 (by decide) ?_
  refine q_iload_n dX3_init_15 rfl rfl ?_
  refine qx_bipush dX3_init_16 rfl rfl ?_
  refine qx_icmp_ge (tgt := 40) dX3_init_18 (by decide) (fun z => absurd z (by decide)) (fun _ => ?_)
  refine q_aload_n dX3_init_21 rfl rfl ?_
  refine q_getR (ci := 3) (k := 0) (r := 34) dX3_init_22 rfl (by decide) rfl tw192 (by decide) rfl ((q_up_c (by decide)).trans (((ct11r_c (by decide))).trans ((q_zc (by decide)).trans ((q_up_c (by decide)).trans (((ct10r_c (by decide))).trans ((q_zc (by decide)).trans ((q_up_c (by decide)).trans (((ct9r_c (by decide))).trans ((q_zc (by decide)).trans ((q_up_c (by decide)).trans (((ct8r_c (by decide))).trans ((q_zc (by decide)).trans q_up_s)))))))))))) (by decide) ?_
  refine q_iload_n dX3_init_25 rfl rfl ?_
  refine qx_new (ci := 7) (kc := 71) (ks := 5094) (nI := 71) (sh' := (q_sh0.take 72)) dX3_init_26 rfl tw189 tw65 tw3 rfl rfl rfl rfl rfl ?_
  refine q_dup dX3_init_29 (fun h => by cases h) ?_
  refine qx_invIN (kc := 63) (ks := 4466) (host := RX11) [] [(2, 71), (2, 71), (0, 4), (2, 34)] rfl qM_X7_init dX3_init_30 (by decide) rfl rfl rfl rfl rfl rfl ct12 ?_
  refine q_aast dX3_init_33 rfl (by decide) (by decide) rfl ?_
  refine qx_iinc (L' := [(2, 33), (0, 5)]) dX3_init_34 rfl rfl rfl (q_inb_ok rfl) rfl ?_
  refine q_goto (tgt := 15) dX3_init_37 (by decide) ?_
  refine q_iload_n dX3_init_15 rfl rfl ?_
  refine qx_bipush dX3_init_16 rfl rfl ?_
  refine qx_icmp_ge (tgt := 40) dX3_init_18 (by decide) (fun z => absurd z (by decide)) (fun _ => ?_)
  refine q_aload_n dX3_init_21 rfl rfl ?_
  refine q_getR (ci := 3) (k := 0) (r := 34) dX3_init_22 rfl (by decide) rfl tw192 (by decide) rfl ((q_up_c (by decide)).trans (((ct12r_c (by decide))).trans ((q_zc (by decide)).trans ((q_up_c (by decide)).trans (((ct11r_c (by decide))).trans ((q_zc (by decide)).trans ((q_up_c (by decide)).trans (((ct10r_c (by decide))).trans ((q_zc (by decide)).trans ((q_up_c (by decide)).trans (((ct9r_c (by decide))).trans ((q_zc (by decide)).trans ((q_up_c (by decide)).trans (((ct8r_c (by decide))).trans ((q_zc (by decide)).trans q_up_s))))))))))))))) (by decide) ?_
  refine q_iload_n dX3_init_25 rfl rfl ?_
  refine qx_new (ci := 7) (kc := 62) (ks := 4456) (nI := 80) (sh' := (q_sh0.take 81)) dX3_init_26 rfl tw189 tw65 tw3 rfl rfl rfl rfl rfl ?_
  refine q_dup dX3_init_29 (fun h => by cases h) ?_
  refine qx_invIN (kc := 54) (ks := 3828) (host := RX11) [] [(2, 80), (2, 80), (0, 5), (2, 34)] rfl qM_X7_init dX3_init_30 (by decide) rfl rfl rfl rfl rfl rfl ct13 ?_
  refine q_aast dX3_init_33 rfl (by decide) (by decide) rfl ?_
  refine qx_iinc (L' := [(2, 33), (0, 6)]) dX3_init_34 rfl rfl rfl (q_inb_ok rfl) rfl ?_
  refine q_goto (tgt := 15) dX3_init_37 (by decide) ?_
  refine q_iload_n dX3_init_15 rfl rfl ?_
  refine qx_bipush dX3_init_16 rfl rfl ?_
  refine qx_icmp_ge (tgt := 40) dX3_init_18 (by decide) (fun z => absurd z (by decide)) (fun _ => ?_)
  refine q_aload_n dX3_init_21 rfl rfl ?_
  refine q_getR (ci := 3) (k := 0) (r := 34) dX3_init_22 rfl (by decide) rfl tw192 (by decide) rfl ((q_up_c (by decide)).trans (((ct13r_c (by decide))).trans ((q_zc (by decide)).trans ((q_up_c (by decide)).trans (((ct12r_c (by decide))).trans ((q_zc (by decide)).trans ((q_up_c (by decide)).trans (((ct11r_c (by decide))).trans ((q_zc (by decide)).trans ((q_up_c (by decide)).trans (((ct10r_c (by decide))).trans ((q_zc (by decide)).trans ((q_up_c (by decide)).trans (((ct9r_c (by decide))).trans ((q_zc (by decide)).trans ((q_up_c (by decide)).trans (((ct8r_c (by decide))).trans ((q_zc (by decide)).trans q_up_s)))))))))))))))))) (by decide) ?_
  refine q_iload_n dX3_init_25 rfl rfl ?_
  refine qx_new (ci := 7) (kc := 53) (ks := 3818) (nI := 89) (sh' := (q_sh0.take 90)) dX3_init_26 rfl tw189 tw65 tw3 rfl rfl rfl rfl rfl ?_
  refine q_dup dX3_init_29 (fun h => by cases h) ?_
  refine qx_invIN (kc := 45) (ks := 3190) (host := RX11) [] [(2, 89), (2, 89), (0, 6), (2, 34)] rfl qM_X7_init dX3_init_30 (by decide) rfl rfl rfl rfl rfl rfl ct14 ?_
  refine q_aast dX3_init_33 rfl (by decide) (by decide) rfl ?_
  refine qx_iinc (L' := [(2, 33), (0, 7)]) dX3_init_34 rfl rfl rfl (q_inb_ok rfl) rfl ?_
  refine q_goto (tgt := 15) dX3_init_37 (by decide) ?_
  refine q_iload_n dX3_init_15 rfl rfl ?_
  refine qx_bipush dX3_init_16 rfl rfl ?_
  refine qx_icmp_ge (tgt := 40) dX3_init_18 (by decide) (fun z => absurd z (by decide)) (fun _ => ?_)
  refine q_aload_n dX3_init_21 rfl rfl ?_
  refine q_getR (ci := 3) (k := 0) (r := 34) dX3_init_22 rfl (by decide) rfl tw192 (by decide) rfl ((q_up_c (by decide)).trans (((ct14r_c (by decide))).trans ((q_zc (by decide)).trans ((q_up_c (by decide)).trans (((ct13r_c (by decide))).trans ((q_zc (by decide)).trans ((q_up_c (by decide)).trans (((ct12r_c (by decide))).trans ((q_zc (by decide)).trans ((q_up_c (by decide)).trans (((ct11r_c (by decide))).trans ((q_zc (by decide)).trans ((q_up_c (by decide)).trans (((ct10r_c (by decide))).trans ((q_zc (by decide)).trans ((q_up_c (by decide)).trans (((ct9r_c (by decide))).trans ((q_zc (by decide)).trans ((q_up_c (by decide)).trans (((ct8r_c (by decide))).trans ((q_zc (by decide)).trans q_up_s))))))))))))))))))))) (by decide) ?_
  refine q_iload_n dX3_init_25 rfl rfl ?_
  refine qx_new (ci := 7) (kc := 44) (ks := 3180) (nI := 98) (sh' := (q_sh0.take 99)) dX3_init_26 rfl tw189 tw65 tw3 rfl rfl rfl rfl rfl ?_
  refine q_dup dX3_init_29 (fun h => by cases h) ?_
  refine qx_invIN (kc := 36) (ks := 2552) (host := RX11) [] [(2, 98), (2, 98), (0, 7), (2, 34)] rfl qM_X7_init dX3_init_30 (by decide) rfl rfl rfl rfl rfl rfl ct15 ?_
  refine q_aast dX3_init_33 rfl (by decide) (by decide) rfl ?_
  refine qx_iinc (L' := [(2, 33), (0, 8)]) dX3_init_34 rfl rfl rfl (q_inb_ok rfl) rfl ?_
  refine q_goto (tgt := 15) dX3_init_37 (by decide) ?_
  refine q_iload_n dX3_init_15 rfl rfl ?_
  refine qx_bipush dX3_init_16 rfl rfl ?_
  refine qx_icmp_ge (tgt := 40) dX3_init_18 (by decide) (fun z => absurd z (by decide)) (fun _ => ?_)
  refine q_aload_n dX3_init_21 rfl rfl ?_
  refine q_getR (ci := 3) (k := 0) (r := 34) dX3_init_22 rfl (by decide) rfl tw192 (by decide) rfl ((q_up_c (by decide)).trans (((ct15r_c (by decide))).trans ((q_zc (by decide)).trans ((q_up_c (by decide)).trans (((ct14r_c (by decide))).trans ((q_zc (by decide)).trans ((q_up_c (by decide)).trans (((ct13r_c (by decide))).trans ((q_zc (by decide)).trans ((q_up_c (by decide)).trans (((ct12r_c (by decide))).trans ((q_zc (by decide)).trans ((q_up_c (by decide)).trans (((ct11r_c (by decide))).trans ((q_zc (by decide)).trans ((q_up_c (by decide)).trans (((ct10r_c (by decide))).trans ((q_zc (by decide)).trans ((q_up_c (by decide)).trans (((ct9r_c (by decide))).trans ((q_zc (by decide)).trans ((q_up_c (by decide)).trans (((ct8r_c (by decide))).trans ((q_zc (by decide)).trans q_up_s)))))))))))))))))))))))) (by decide) ?_
  refine q_iload_n dX3_init_25 rfl rfl ?_
  refine qx_new (ci := 7) (kc := 35) (ks := 2542) (nI := 107) (sh' := (q_sh0.take 108)) dX3_init_26 rfl tw189 tw65 tw3 rfl rfl rfl rfl rfl ?_
  refine q_dup dX3_init_29 (fun h => by cases h) ?_
  refine qx_invIN (kc := 27) (ks := 1914) (host := RX11) [] [(2, 107), (2, 107), (0, 8), (2, 34)] rfl qM_X7_init dX3_init_30 (by decide) rfl rfl rfl rfl rfl rfl ct16 ?_
  refine q_aast dX3_init_33 rfl (by decide) (by decide) rfl ?_
  refine qx_iinc (L' := [(2, 33), (0, 9)]) dX3_init_34 rfl rfl rfl (q_inb_ok rfl) rfl ?_
  refine q_goto (tgt := 15) dX3_init_37 (by decide) ?_
  refine q_iload_n dX3_init_15 rfl rfl ?_
  refine qx_bipush dX3_init_16 rfl rfl ?_
  refine qx_icmp_ge (tgt := 40) dX3_init_18 (by decide) (fun z => absurd z (by decide)) (fun _ => ?_)
  refine q_aload_n dX3_init_21 rfl rfl ?_
  refine q_getR (ci := 3) (k := 0) (r := 34) dX3_init_22 rfl (by decide) rfl tw192 (by decide) rfl ((q_up_c (by decide)).trans (((ct16r_c (by decide))).trans ((q_zc (by decide)).trans ((q_up_c (by decide)).trans (((ct15r_c (by decide))).trans ((q_zc (by decide)).trans ((q_up_c (by decide)).trans (((ct14r_c (by decide))).trans ((q_zc (by decide)).trans ((q_up_c (by decide)).trans (((ct13r_c (by decide))).trans ((q_zc (by decide)).trans ((q_up_c (by decide)).trans (((ct12r_c (by decide))).trans ((q_zc (by decide)).trans ((q_up_c (by decide)).trans (((ct11r_c (by decide))).trans ((q_zc (by decide)).trans ((q_up_c (by decide)).trans (((ct10r_c (by decide))).trans ((q_zc (by decide)).trans ((q_up_c (by decide)).trans (((ct9r_c (by decide))).trans ((q_zc (by decide)).trans ((q_up_c (by decide)).trans (((ct8r_c (by decide))).trans ((q_zc (by decide)).trans q_up_s))))))))))))))))))))))))))) (by decide) ?_
  refine q_iload_n dX3_init_25 rfl rfl ?_
  refine qx_new (ci := 7) (kc := 26) (ks := 1904) (nI := 116) (sh' := (q_sh0.take 117)) dX3_init_26 rfl tw189 tw65 tw3 rfl rfl rfl rfl rfl ?_
  refine q_dup dX3_init_29 (fun h => by cases h) ?_
  refine qx_invIN (kc := 18) (ks := 1276) (host := RX11) [] [(2, 116), (2, 116), (0, 9), (2, 34)] rfl qM_X7_init dX3_init_30 (by decide) rfl rfl rfl rfl rfl rfl ct17 ?_
  refine q_aast dX3_init_33 rfl (by decide) (by decide) rfl ?_
  refine qx_iinc (L' := [(2, 33), (0, 10)]) dX3_init_34 rfl rfl rfl (q_inb_ok rfl) rfl ?_
  refine q_goto (tgt := 15) dX3_init_37 (by decide) ?_
  refine q_iload_n dX3_init_15 rfl rfl ?_
  refine qx_bipush dX3_init_16 rfl rfl ?_
  refine qx_icmp_ge (tgt := 40) dX3_init_18 (by decide) (fun z => absurd z (by decide)) (fun _ => ?_)
  refine q_aload_n dX3_init_21 rfl rfl ?_
  refine q_getR (ci := 3) (k := 0) (r := 34) dX3_init_22 rfl (by decide) rfl tw192 (by decide) rfl ((q_up_c (by decide)).trans (((ct17r_c (by decide))).trans ((q_zc (by decide)).trans ((q_up_c (by decide)).trans (((ct16r_c (by decide))).trans ((q_zc (by decide)).trans ((q_up_c (by decide)).trans (((ct15r_c (by decide))).trans ((q_zc (by decide)).trans ((q_up_c (by decide)).trans (((ct14r_c (by decide))).trans ((q_zc (by decide)).trans ((q_up_c (by decide)).trans (((ct13r_c (by decide))).trans ((q_zc (by decide)).trans ((q_up_c (by decide)).trans (((ct12r_c (by decide))).trans ((q_zc (by decide)).trans ((q_up_c (by decide)).trans (((ct11r_c (by decide))).trans ((q_zc (by decide)).trans ((q_up_c (by decide)).trans (((ct10r_c (by decide))).trans ((q_zc (by decide)).trans ((q_up_c (by decide)).trans (((ct9r_c (by decide))).trans ((q_zc (by decide)).trans ((q_up_c (by decide)).trans (((ct8r_c (by decide))).trans ((q_zc (by decide)).trans q_up_s)))))))))))))))))))))))))))))) (by decide) ?_
  refine q_iload_n dX3_init_25 rfl rfl ?_
  refine qx_new (ci := 7) (kc := 17) (ks := 1266) (nI := 125) (sh' := (q_sh0.take 126)) dX3_init_26 rfl tw189 tw65 tw3 rfl rfl rfl rfl rfl ?_
  refine q_dup dX3_init_29 (fun h => by cases h) ?_
  refine qx_invIN (kc := 9) (ks := 638) (host := RX11) [] [(2, 125), (2, 125), (0, 10), (2, 34)] rfl qM_X7_init dX3_init_30 (by decide) rfl rfl rfl rfl rfl rfl ct18 ?_
  refine q_aast dX3_init_33 rfl (by decide) (by decide) rfl ?_
  refine qx_iinc (L' := [(2, 33), (0, 11)]) dX3_init_34 rfl rfl rfl (q_inb_ok rfl) rfl ?_
  refine q_goto (tgt := 15) dX3_init_37 (by decide) ?_
  refine q_iload_n dX3_init_15 rfl rfl ?_
  refine qx_bipush dX3_init_16 rfl rfl ?_
  refine qx_icmp_ge (tgt := 40) dX3_init_18 (by decide) (fun z => absurd z (by decide)) (fun _ => ?_)
  refine q_aload_n dX3_init_21 rfl rfl ?_
  refine q_getR (ci := 3) (k := 0) (r := 34) dX3_init_22 rfl (by decide) rfl tw192 (by decide) rfl ((q_up_c (by decide)).trans (((ct18r_c (by decide))).trans ((q_zc (by decide)).trans ((q_up_c (by decide)).trans (((ct17r_c (by decide))).trans ((q_zc (by decide)).trans ((q_up_c (by decide)).trans (((ct16r_c (by decide))).trans ((q_zc (by decide)).trans ((q_up_c (by decide)).trans (((ct15r_c (by decide))).trans ((q_zc (by decide)).trans ((q_up_c (by decide)).trans (((ct14r_c (by decide))).trans ((q_zc (by decide)).trans ((q_up_c (by decide)).trans (((ct13r_c (by decide))).trans ((q_zc (by decide)).trans ((q_up_c (by decide)).trans (((ct12r_c (by decide))).trans ((q_zc (by decide)).trans ((q_up_c (by decide)).trans (((ct11r_c (by decide))).trans ((q_zc (by decide)).trans ((q_up_c (by decide)).trans (((ct10r_c (by decide))).trans ((q_zc (by decide)).trans ((q_up_c (by decide)).trans (((ct9r_c (by decide))).trans ((q_zc (by decide)).trans ((q_up_c (by decide)).trans (((ct8r_c (by decide))).trans ((q_zc (by decide)).trans q_up_s))))))))))))))))))))))))))))))))) (by decide) ?_
  refine q_iload_n dX3_init_25 rfl rfl ?_
  refine qx_new (ci := 7) (kc := 8) (ks := 628) (nI := 134) (sh' := (q_sh0.take 135)) dX3_init_26 rfl tw189 tw65 tw3 rfl rfl rfl rfl rfl ?_
  refine q_dup dX3_init_29 (fun h => by cases h) ?_
  refine qx_invIN (kc := 0) (ks := 0) (host := RX11) [] [(2, 134), (2, 134), (0, 11), (2, 34)] rfl qM_X7_init dX3_init_30 (by decide) rfl rfl rfl rfl rfl rfl ct19 ?_
  refine q_aast dX3_init_33 rfl (by decide) (by decide) rfl ?_
  refine qx_iinc (L' := [(2, 33), (0, 12)]) dX3_init_34 rfl rfl rfl (q_inb_ok rfl) rfl ?_
  refine q_goto (tgt := 15) dX3_init_37 (by decide) ?_
  refine q_iload_n dX3_init_15 rfl rfl ?_
  refine qx_bipush dX3_init_16 rfl rfl ?_
  refine qx_icmp_ge (tgt := 40) dX3_init_18 (by decide) (fun _ => ?_) (fun z => absurd z (by decide))
  exact q_vret dX3_init_40 rfl
theorem ct7r_c {rf : qm} {c i : Int} (h : c < 33 ∧ 0 ≤ c) : ct7r rf c i = rf c i := by
  exact ((q_up_c (by omega)).trans ((ct19r_c (by omega)).trans ((q_zc (by omega)).trans ((q_up_c (by omega)).trans ((ct18r_c (by omega)).trans ((q_zc (by omega)).trans ((q_up_c (by omega)).trans ((ct17r_c (by omega)).trans ((q_zc (by omega)).trans ((q_up_c (by omega)).trans ((ct16r_c (by omega)).trans ((q_zc (by omega)).trans ((q_up_c (by omega)).trans ((ct15r_c (by omega)).trans ((q_zc (by omega)).trans ((q_up_c (by omega)).trans ((ct14r_c (by omega)).trans ((q_zc (by omega)).trans ((q_up_c (by omega)).trans ((ct13r_c (by omega)).trans ((q_zc (by omega)).trans ((q_up_c (by omega)).trans ((ct12r_c (by omega)).trans ((q_zc (by omega)).trans ((q_up_c (by omega)).trans ((ct11r_c (by omega)).trans ((q_zc (by omega)).trans ((q_up_c (by omega)).trans ((ct10r_c (by omega)).trans ((q_zc (by omega)).trans ((q_up_c (by omega)).trans ((ct9r_c (by omega)).trans ((q_zc (by omega)).trans ((q_up_c (by omega)).trans ((ct8r_c (by omega)).trans ((q_zc (by omega)).trans ((q_up_c (by omega)).trans (q_zc (by omega)))))))))))))))))))))))))))))))))))))))
theorem dX6_init_0 : decode cX6_init 0 = .ok (.aload_n 0, 1) := by decide +kernel
theorem dX6_init_1 : decode cX6_init 1 = .ok (.invokespecial 3, 3) := by decide +kernel
theorem dX6_init_4 : decode cX6_init 4 = .ok (.aload_n 0, 1) := by decide +kernel
theorem dX6_init_5 : decode cX6_init 5 = .ok (.bipush 80, 2) := by decide +kernel
theorem dX6_init_7 : decode cX6_init 7 = .ok (.newarray .int, 2) := by decide +kernel
theorem dX6_init_9 : decode cX6_init 9 = .ok (.putfield 9, 3) := by decide +kernel
theorem dX6_init_12 : decode cX6_init 12 = .ok (.return_, 1) := by decide +kernel
def ct20r (rf : qm) : qm := (q_up (q_z rf 146 (-1)) 145 0 146)
def ct20m (mem : qm) : qm := (q_z mem 146 0)
set_option maxRecDepth 20000 in
theorem ct20 {rf mem : qm} : q_Ev yX6_init cX6_init 1 none 1 1 80 [(2, 145)] ((q_sh0.take 146), rf, mem) (fun _ σ => σ = ((q_sh0.take 147), ct20r rf, ct20m mem)) := by
  refine q_enter (by decide +kernel) (by simp) (by decide) ?_
  show q_At yX6_init cX6_init 1 none 1 1 80 _ 0 [(2, 145)] [] ((q_sh0.take 146), rf, mem)
  refine q_aload_n dX6_init_0 rfl rfl ?_
  refine q_objInit dX6_init_1 tw208 tw28 tw29 (by decide) (Nat.le_of_ble_eq_true rfl) ?_
  refine q_aload_n dX6_init_4 rfl rfl ?_
  refine qx_bipush dX6_init_5 rfl rfl ?_
  refine qx_newI (kc := 0) (ks := 0) (nI := 146) (sh' := (q_sh0.take 147)) dX6_init_7 tw63 rfl rfl rfl rfl rfl rfl rfl ?_
  refine q_putRF (ci := 6) (k := 0) (ty := tyX6 0) dX6_init_9 rfl (by decide) rfl tw209 rfl rfl rfl (by decide) rfl (fun _ => ⟨rfl, rfl⟩) rfl ?_
  exact q_vret dX6_init_12 rfl
theorem ct20r_c {rf : qm} {c i : Int} (h : c < 145 ∧ 0 ≤ c) : ct20r rf c i = rf c i := by
  exact ((q_up_c (by omega)).trans (q_zc (by omega)))
theorem dX10_init_0 : decode cX10_init 0 = .ok (.aload_n 0, 1) := by decide +kernel
theorem dX10_init_1 : decode cX10_init 1 = .ok (.invokespecial 3, 3) := by decide +kernel
theorem dX10_init_4 : decode cX10_init 4 = .ok (.aload_n 0, 1) := by decide +kernel
theorem dX10_init_5 : decode cX10_init 5 = .ok (.bipush 36, 2) := by decide +kernel
theorem dX10_init_7 : decode cX10_init 7 = .ok (.newarray .int, 2) := by decide +kernel
theorem dX10_init_9 : decode cX10_init 9 = .ok (.putfield 9, 3) := by decide +kernel
theorem dX10_init_12 : decode cX10_init 12 = .ok (.aload_n 0, 1) := by decide +kernel
theorem dX10_init_13 : decode cX10_init 13 = .ok (.aload_n 1, 1) := by decide +kernel
theorem dX10_init_14 : decode cX10_init 14 = .ok (.putfield 15, 3) := by decide +kernel
theorem dX10_init_17 : decode cX10_init 17 = .ok (.aload_n 0, 1) := by decide +kernel
theorem dX10_init_18 : decode cX10_init 18 = .ok (.aload_n 2, 1) := by decide +kernel
theorem dX10_init_19 : decode cX10_init 19 = .ok (.putfield 19, 3) := by decide +kernel
theorem dX10_init_22 : decode cX10_init 22 = .ok (.aload_n 0, 1) := by decide +kernel
theorem dX10_init_23 : decode cX10_init 23 = .ok (.aload_n 3, 1) := by decide +kernel
theorem dX10_init_24 : decode cX10_init 24 = .ok (.putfield 23, 3) := by decide +kernel
theorem dX10_init_27 : decode cX10_init 27 = .ok (.return_, 1) := by decide +kernel
def ct21r (rf : qm) : qm := (q_up (q_up (q_up (q_up (q_z rf 148 (-1)) 147 3 148) 147 0 145) 147 1 1) 147 2 5)
def ct21m (mem : qm) : qm := (q_z mem 148 0)
set_option maxRecDepth 20000 in
theorem ct21 {rf mem : qm} : q_Ev yX10_init cX10_init 4 none 1 1 36 [(2, 147), (2, 145), (2, 1), (2, 5)] ((q_sh0.take 148), rf, mem) (fun _ σ => σ = ((q_sh0.take 149), ct21r rf, ct21m mem)) := by
  refine q_enter (by decide +kernel) (by simp) (by decide) ?_
  show q_At yX10_init cX10_init 4 none 1 1 36 _ 0 [(2, 147), (2, 145), (2, 1), (2, 5)] [] ((q_sh0.take 148), rf, mem)
  refine q_aload_n dX10_init_0 rfl rfl ?_
  refine q_objInit dX10_init_1 tw233 tw28 tw29 (by decide) (Nat.le_of_ble_eq_true rfl) ?_
  refine q_aload_n dX10_init_4 rfl rfl ?_
  refine qx_bipush dX10_init_5 rfl rfl ?_
  refine qx_newI (kc := 0) (ks := 0) (nI := 148) (sh' := (q_sh0.take 149)) dX10_init_7 tw63 rfl rfl rfl rfl rfl rfl rfl ?_
  refine q_putRF (ci := 10) (k := 3) (ty := tyX10 3) dX10_init_9 rfl (by decide) rfl tw237 rfl rfl rfl (by decide) rfl (fun _ => ⟨rfl, rfl⟩) rfl ?_
  refine q_aload_n dX10_init_12 rfl rfl ?_
  refine q_aload_n dX10_init_13 rfl rfl ?_
  refine q_putRF (ci := 10) (k := 0) (ty := tyX10 0) dX10_init_14 rfl (by decide) rfl tw234 rfl rfl rfl (by decide) rfl (fun _ => ⟨rfl, rfl⟩) rfl ?_
  refine q_aload_n dX10_init_17 rfl rfl ?_
  refine q_aload_n dX10_init_18 rfl rfl ?_
  refine q_putRF (ci := 10) (k := 1) (ty := tyX10 1) dX10_init_19 rfl (by decide) rfl tw235 rfl rfl rfl (by decide) rfl (fun _ => ⟨rfl, rfl⟩) rfl ?_
  refine q_aload_n dX10_init_22 rfl rfl ?_
  refine q_aload_n dX10_init_23 rfl rfl ?_
  refine q_putRF (ci := 10) (k := 2) (ty := tyX10 2) dX10_init_24 rfl (by decide) rfl tw236 rfl rfl rfl (by decide) rfl (fun _ => ⟨rfl, rfl⟩) rfl ?_
  exact q_vret dX10_init_27 rfl
theorem ct21r_c {rf : qm} {c i : Int} (h : c < 147 ∧ 0 ≤ c) : ct21r rf c i = rf c i := by
  exact ((q_up_c (by omega)).trans ((q_up_c (by omega)).trans ((q_up_c (by omega)).trans ((q_up_c (by omega)).trans (q_zc (by omega))))))
theorem dX2_init_0 : decode cX2_init 0 = .ok (.aload_n 0, 1) := by decide +kernel
theorem dX2_init_1 : decode cX2_init 1 = .ok (.invokespecial 3, 3) := by decide +kernel
theorem dX2_init_4 : decode cX2_init 4 = .ok (.aload_n 0, 1) := by decide +kernel
theorem dX2_init_5 : decode cX2_init 5 = .ok (.bipush 40, 2) := by decide +kernel
theorem dX2_init_7 : decode cX2_init 7 = .ok (.newarray .int, 2) := by decide +kernel
theorem dX2_init_9 : decode cX2_init 9 = .ok (.putfield 9, 3) := by decide +kernel
theorem dX2_init_12 : decode cX2_init 12 = .ok (.aload_n 0, 1) := by decide +kernel
theorem dX2_init_13 : decode cX2_init 13 = .ok (.bipush 40, 2) := by decide +kernel
theorem dX2_init_15 : decode cX2_init 15 = .ok (.newarray .int, 2) := by decide +kernel
theorem dX2_init_17 : decode cX2_init 17 = .ok (.putfield 15, 3) := by decide +kernel
theorem dX2_init_20 : decode cX2_init 20 = .ok (.aload_n 0, 1) := by decide +kernel
theorem dX2_init_21 : decode cX2_init 21 = .ok (.bipush 40, 2) := by decide +kernel
theorem dX2_init_23 : decode cX2_init 23 = .ok (.newarray .int, 2) := by decide +kernel
theorem dX2_init_25 : decode cX2_init 25 = .ok (.putfield 18, 3) := by decide +kernel
theorem dX2_init_28 : decode cX2_init 28 = .ok (.aload_n 0, 1) := by decide +kernel
theorem dX2_init_29 : decode cX2_init 29 = .ok (.bipush 10, 2) := by decide +kernel
theorem dX2_init_31 : decode cX2_init 31 = .ok (.newarray .int, 2) := by decide +kernel
theorem dX2_init_33 : decode cX2_init 33 = .ok (.putfield 21, 3) := by decide +kernel
theorem dX2_init_36 : decode cX2_init 36 = .ok (.return_, 1) := by decide +kernel
def ct22r (rf : qm) : qm := (q_up (q_z (q_up (q_z (q_up (q_z (q_up (q_z rf 150 (-1)) 149 0 150) 151 (-1)) 149 1 151) 152 (-1)) 149 2 152) 153 (-1)) 149 3 153)
def ct22m (mem : qm) : qm := (q_z (q_z (q_z (q_z mem 150 0) 151 0) 152 0) 153 0)
set_option maxRecDepth 20000 in
theorem ct22 {rf mem : qm} : q_Ev yX2_init cX2_init 1 none 1 4 130 [(2, 149)] ((q_sh0.take 150), rf, mem) (fun _ σ => σ = ((q_sh0.take 154), ct22r rf, ct22m mem)) := by
  refine q_enter (by decide +kernel) (by simp) (by decide) ?_
  show q_At yX2_init cX2_init 1 none 1 4 130 _ 0 [(2, 149)] [] ((q_sh0.take 150), rf, mem)
  refine q_aload_n dX2_init_0 rfl rfl ?_
  refine q_objInit dX2_init_1 tw255 tw28 tw29 (by decide) (Nat.le_of_ble_eq_true rfl) ?_
  refine q_aload_n dX2_init_4 rfl rfl ?_
  refine qx_bipush dX2_init_5 rfl rfl ?_
  refine qx_newI (kc := 3) (ks := 90) (nI := 150) (sh' := (q_sh0.take 151)) dX2_init_7 tw63 rfl rfl rfl rfl rfl rfl rfl ?_
  refine q_putRF (ci := 2) (k := 0) (ty := tyX2 0) dX2_init_9 rfl (by decide) rfl tw256 rfl rfl rfl (by decide) rfl (fun _ => ⟨rfl, rfl⟩) rfl ?_
  refine q_aload_n dX2_init_12 rfl rfl ?_
  refine qx_bipush dX2_init_13 rfl rfl ?_
  refine qx_newI (kc := 2) (ks := 50) (nI := 151) (sh' := (q_sh0.take 152)) dX2_init_15 tw63 rfl rfl rfl rfl rfl rfl rfl ?_
  refine q_putRF (ci := 2) (k := 1) (ty := tyX2 1) dX2_init_17 rfl (by decide) rfl tw257 rfl rfl rfl (by decide) rfl (fun _ => ⟨rfl, rfl⟩) rfl ?_
  refine q_aload_n dX2_init_20 rfl rfl ?_
  refine qx_bipush dX2_init_21 rfl rfl ?_
  refine qx_newI (kc := 1) (ks := 10) (nI := 152) (sh' := (q_sh0.take 153)) dX2_init_23 tw63 rfl rfl rfl rfl rfl rfl rfl ?_
  refine q_putRF (ci := 2) (k := 2) (ty := tyX2 2) dX2_init_25 rfl (by decide) rfl tw258 rfl rfl rfl (by decide) rfl (fun _ => ⟨rfl, rfl⟩) rfl ?_
  refine q_aload_n dX2_init_28 rfl rfl ?_
  refine qx_bipush dX2_init_29 rfl rfl ?_
  refine qx_newI (kc := 0) (ks := 0) (nI := 153) (sh' := (q_sh0.take 154)) dX2_init_31 tw63 rfl rfl rfl rfl rfl rfl rfl ?_
  refine q_putRF (ci := 2) (k := 3) (ty := tyX2 3) dX2_init_33 rfl (by decide) rfl tw259 rfl rfl rfl (by decide) rfl (fun _ => ⟨rfl, rfl⟩) rfl ?_
  exact q_vret dX2_init_36 rfl
theorem ct22r_c {rf : qm} {c i : Int} (h : c < 149 ∧ 0 ≤ c) : ct22r rf c i = rf c i := by
  exact ((q_up_c (by omega)).trans ((q_zc (by omega)).trans ((q_up_c (by omega)).trans ((q_zc (by omega)).trans ((q_up_c (by omega)).trans ((q_zc (by omega)).trans ((q_up_c (by omega)).trans (q_zc (by omega)))))))))
theorem dX8_init_0 : decode cX8_init 0 = .ok (.aload_n 0, 1) := by decide +kernel
theorem dX8_init_1 : decode cX8_init 1 = .ok (.invokespecial 3, 3) := by decide +kernel
theorem dX8_init_4 : decode cX8_init 4 = .ok (.aload_n 0, 1) := by decide +kernel
theorem dX8_init_5 : decode cX8_init 5 = .ok (.bipush 60, 2) := by decide +kernel
theorem dX8_init_7 : decode cX8_init 7 = .ok (.newarray .int, 2) := by decide +kernel
theorem dX8_init_9 : decode cX8_init 9 = .ok (.putfield 9, 3) := by decide +kernel
theorem dX8_init_12 : decode cX8_init 12 = .ok (.aload_n 0, 1) := by decide +kernel
theorem dX8_init_13 : decode cX8_init 13 = .ok (.bipush 60, 2) := by decide +kernel
theorem dX8_init_15 : decode cX8_init 15 = .ok (.newarray .int, 2) := by decide +kernel
theorem dX8_init_17 : decode cX8_init 17 = .ok (.putfield 15, 3) := by decide +kernel
theorem dX8_init_20 : decode cX8_init 20 = .ok (.aload_n 0, 1) := by decide +kernel
theorem dX8_init_21 : decode cX8_init 21 = .ok (.bipush 60, 2) := by decide +kernel
theorem dX8_init_23 : decode cX8_init 23 = .ok (.newarray .int, 2) := by decide +kernel
theorem dX8_init_25 : decode cX8_init 25 = .ok (.putfield 18, 3) := by decide +kernel
theorem dX8_init_28 : decode cX8_init 28 = .ok (.aload_n 0, 1) := by decide +kernel
theorem dX8_init_29 : decode cX8_init 29 = .ok (.bipush 60, 2) := by decide +kernel
theorem dX8_init_31 : decode cX8_init 31 = .ok (.newarray .int, 2) := by decide +kernel
theorem dX8_init_33 : decode cX8_init 33 = .ok (.putfield 21, 3) := by decide +kernel
theorem dX8_init_36 : decode cX8_init 36 = .ok (.return_, 1) := by decide +kernel
def ct23r (rf : qm) : qm := (q_up (q_z (q_up (q_z (q_up (q_z (q_up (q_z rf 155 (-1)) 154 0 155) 156 (-1)) 154 1 156) 157 (-1)) 154 2 157) 158 (-1)) 154 3 158)
def ct23m (mem : qm) : qm := (q_z (q_z (q_z (q_z mem 155 0) 156 0) 157 0) 158 0)
set_option maxRecDepth 20000 in
theorem ct23 {rf mem : qm} : q_Ev yX8_init cX8_init 1 none 1 4 240 [(2, 154)] ((q_sh0.take 155), rf, mem) (fun _ σ => σ = ((q_sh0.take 159), ct23r rf, ct23m mem)) := by
  refine q_enter (by decide +kernel) (by simp) (by decide) ?_
  show q_At yX8_init cX8_init 1 none 1 4 240 _ 0 [(2, 154)] [] ((q_sh0.take 155), rf, mem)
  refine q_aload_n dX8_init_0 rfl rfl ?_
  refine q_objInit dX8_init_1 tw281 tw28 tw29 (by decide) (Nat.le_of_ble_eq_true rfl) ?_
  refine q_aload_n dX8_init_4 rfl rfl ?_
  refine qx_bipush dX8_init_5 rfl rfl ?_
  refine qx_newI (kc := 3) (ks := 180) (nI := 155) (sh' := (q_sh0.take 156)) dX8_init_7 tw63 rfl rfl rfl rfl rfl rfl rfl ?_
  refine q_putRF (ci := 8) (k := 0) (ty := tyX8 0) dX8_init_9 rfl (by decide) rfl tw282 rfl rfl rfl (by decide) rfl (fun _ => ⟨rfl, rfl⟩) rfl ?_
  refine q_aload_n dX8_init_12 rfl rfl ?_
  refine qx_bipush dX8_init_13 rfl rfl ?_
  refine qx_newI (kc := 2) (ks := 120) (nI := 156) (sh' := (q_sh0.take 157)) dX8_init_15 tw63 rfl rfl rfl rfl rfl rfl rfl ?_
  refine q_putRF (ci := 8) (k := 1) (ty := tyX8 1) dX8_init_17 rfl (by decide) rfl tw284 rfl rfl rfl (by decide) rfl (fun _ => ⟨rfl, rfl⟩) rfl ?_
  refine q_aload_n dX8_init_20 rfl rfl ?_
  refine qx_bipush dX8_init_21 rfl rfl ?_
  refine qx_newI (kc := 1) (ks := 60) (nI := 157) (sh' := (q_sh0.take 158)) dX8_init_23 tw63 rfl rfl rfl rfl rfl rfl rfl ?_
  refine q_putRF (ci := 8) (k := 2) (ty := tyX8 2) dX8_init_25 rfl (by decide) rfl tw286 rfl rfl rfl (by decide) rfl (fun _ => ⟨rfl, rfl⟩) rfl ?_
  refine q_aload_n dX8_init_28 rfl rfl ?_
  refine qx_bipush dX8_init_29 rfl rfl ?_
  refine qx_newI (kc := 0) (ks := 0) (nI := 158) (sh' := (q_sh0.take 159)) dX8_init_31 tw63 rfl rfl rfl rfl rfl rfl rfl ?_
  refine q_putRF (ci := 8) (k := 3) (ty := tyX8 3) dX8_init_33 rfl (by decide) rfl tw288 rfl rfl rfl (by decide) rfl (fun _ => ⟨rfl, rfl⟩) rfl ?_
  exact q_vret dX8_init_36 rfl
theorem ct23r_c {rf : qm} {c i : Int} (h : c < 154 ∧ 0 ≤ c) : ct23r rf c i = rf c i := by
  exact ((q_up_c (by omega)).trans ((q_zc (by omega)).trans ((q_up_c (by omega)).trans ((q_zc (by omega)).trans ((q_up_c (by omega)).trans ((q_zc (by omega)).trans ((q_up_c (by omega)).trans (q_zc (by omega)))))))))
theorem dX5_init_0 : decode cX5_init 0 = .ok (.aload_n 0, 1) := by decide +kernel
theorem dX5_init_1 : decode cX5_init 1 = .ok (.invokespecial 3, 3) := by decide +kernel
theorem dX5_init_4 : decode cX5_init 4 = .ok (.aload_n 0, 1) := by decide +kernel
theorem dX5_init_5 : decode cX5_init 5 = .ok (.bipush 10, 2) := by decide +kernel
theorem dX5_init_7 : decode cX5_init 7 = .ok (.newarray .int, 2) := by decide +kernel
theorem dX5_init_9 : decode cX5_init 9 = .ok (.putfield 9, 3) := by decide +kernel
theorem dX5_init_12 : decode cX5_init 12 = .ok (.aload_n 0, 1) := by decide +kernel
theorem dX5_init_13 : decode cX5_init 13 = .ok (.bipush 10, 2) := by decide +kernel
theorem dX5_init_15 : decode cX5_init 15 = .ok (.newarray .int, 2) := by decide +kernel
theorem dX5_init_17 : decode cX5_init 17 = .ok (.putfield 15, 3) := by decide +kernel
theorem dX5_init_20 : decode cX5_init 20 = .ok (.aload_n 0, 1) := by decide +kernel
theorem dX5_init_21 : decode cX5_init 21 = .ok (.bipush 10, 2) := by decide +kernel
theorem dX5_init_23 : decode cX5_init 23 = .ok (.newarray .int, 2) := by decide +kernel
theorem dX5_init_25 : decode cX5_init 25 = .ok (.putfield 18, 3) := by decide +kernel
theorem dX5_init_28 : decode cX5_init 28 = .ok (.return_, 1) := by decide +kernel
def ct24r (rf : qm) : qm := (q_up (q_z (q_up (q_z (q_up (q_z rf 160 (-1)) 159 0 160) 161 (-1)) 159 1 161) 162 (-1)) 159 2 162)
def ct24m (mem : qm) : qm := (q_z (q_z (q_z mem 160 0) 161 0) 162 0)
set_option maxRecDepth 20000 in
theorem ct24 {rf mem : qm} : q_Ev yX5_init cX5_init 1 none 1 3 30 [(2, 159)] ((q_sh0.take 160), rf, mem) (fun _ σ => σ = ((q_sh0.take 163), ct24r rf, ct24m mem)) := by
  refine q_enter (by decide +kernel) (by simp) (by decide) ?_
  show q_At yX5_init cX5_init 1 none 1 3 30 _ 0 [(2, 159)] [] ((q_sh0.take 160), rf, mem)
  refine q_aload_n dX5_init_0 rfl rfl ?_
  refine q_objInit dX5_init_1 tw308 tw28 tw29 (by decide) (Nat.le_of_ble_eq_true rfl) ?_
  refine q_aload_n dX5_init_4 rfl rfl ?_
  refine qx_bipush dX5_init_5 rfl rfl ?_
  refine qx_newI (kc := 2) (ks := 20) (nI := 160) (sh' := (q_sh0.take 161)) dX5_init_7 tw63 rfl rfl rfl rfl rfl rfl rfl ?_
  refine q_putRF (ci := 5) (k := 0) (ty := tyX5 0) dX5_init_9 rfl (by decide) rfl tw309 rfl rfl rfl (by decide) rfl (fun _ => ⟨rfl, rfl⟩) rfl ?_
  refine q_aload_n dX5_init_12 rfl rfl ?_
  refine qx_bipush dX5_init_13 rfl rfl ?_
  refine qx_newI (kc := 1) (ks := 10) (nI := 161) (sh' := (q_sh0.take 162)) dX5_init_15 tw63 rfl rfl rfl rfl rfl rfl rfl ?_
  refine q_putRF (ci := 5) (k := 1) (ty := tyX5 1) dX5_init_17 rfl (by decide) rfl tw310 rfl rfl rfl (by decide) rfl (fun _ => ⟨rfl, rfl⟩) rfl ?_
  refine q_aload_n dX5_init_20 rfl rfl ?_
  refine qx_bipush dX5_init_21 rfl rfl ?_
  refine qx_newI (kc := 0) (ks := 0) (nI := 162) (sh' := (q_sh0.take 163)) dX5_init_23 tw63 rfl rfl rfl rfl rfl rfl rfl ?_
  refine q_putRF (ci := 5) (k := 2) (ty := tyX5 2) dX5_init_25 rfl (by decide) rfl tw311 rfl rfl rfl (by decide) rfl (fun _ => ⟨rfl, rfl⟩) rfl ?_
  exact q_vret dX5_init_28 rfl
theorem ct24r_c {rf : qm} {c i : Int} (h : c < 159 ∧ 0 ≤ c) : ct24r rf c i = rf c i := by
  exact ((q_up_c (by omega)).trans ((q_zc (by omega)).trans ((q_up_c (by omega)).trans ((q_zc (by omega)).trans ((q_up_c (by omega)).trans (q_zc (by omega)))))))
theorem dX4_init_0 : decode cX4_init 0 = .ok (.aload_n 0, 1) := by decide +kernel
theorem dX4_init_1 : decode cX4_init 1 = .ok (.invokespecial 3, 3) := by decide +kernel
theorem dX4_init_4 : decode cX4_init 4 = .ok (.aload_n 0, 1) := by decide +kernel
theorem dX4_init_5 : decode cX4_init 5 = .ok (.sipush 21007, 3) := by decide +kernel
theorem dX4_init_8 : decode cX4_init 8 = .ok (.newarray .long, 2) := by decide +kernel
theorem dX4_init_10 : decode cX4_init 10 = .ok (.putfield 11, 3) := by decide +kernel
theorem dX4_init_13 : decode cX4_init 13 = .ok (.aload_n 0, 1) := by decide +kernel
theorem dX4_init_14 : decode cX4_init 14 = .ok (.sipush 3000, 3) := by decide +kernel
theorem dX4_init_17 : decode cX4_init 17 = .ok (.newarray .int, 2) := by decide +kernel
theorem dX4_init_19 : decode cX4_init 19 = .ok (.putfield 15, 3) := by decide +kernel
theorem dX4_init_22 : decode cX4_init 22 = .ok (.aload_n 0, 1) := by decide +kernel
theorem dX4_init_23 : decode cX4_init 23 = .ok (.sipush 3000, 3) := by decide +kernel
theorem dX4_init_26 : decode cX4_init 26 = .ok (.newarray .int, 2) := by decide +kernel
theorem dX4_init_28 : decode cX4_init 28 = .ok (.putfield 19, 3) := by decide +kernel
theorem dX4_init_31 : decode cX4_init 31 = .ok (.aload_n 0, 1) := by decide +kernel
theorem dX4_init_32 : decode cX4_init 32 = .ok (.sipush 4096, 3) := by decide +kernel
theorem dX4_init_35 : decode cX4_init 35 = .ok (.newarray .int, 2) := by decide +kernel
theorem dX4_init_37 : decode cX4_init 37 = .ok (.putfield 22, 3) := by decide +kernel
theorem dX4_init_40 : decode cX4_init 40 = .ok (.aload_n 0, 1) := by decide +kernel
theorem dX4_init_41 : decode cX4_init 41 = .ok (.aload_n 1, 1) := by decide +kernel
theorem dX4_init_42 : decode cX4_init 42 = .ok (.putfield 25, 3) := by decide +kernel
theorem dX4_init_45 : decode cX4_init 45 = .ok (.return_, 1) := by decide +kernel
def ct25r (rf : qm) : qm := (q_up (q_up (q_z (q_up (q_z (q_up (q_z (q_up (q_z rf 164 (-1)) 163 1 164) 165 (-1)) 163 2 165) 166 (-1)) 163 3 166) 167 (-1)) 163 4 167) 163 0 1)
def ct25m (mem : qm) : qm := (q_z (q_z (q_z (q_z mem 164 0) 165 0) 166 0) 167 0)
set_option maxRecDepth 20000 in
theorem ct25 {rf mem : qm} : q_Ev yX4_init cX4_init 2 none 1 4 31103 [(2, 163), (2, 1)] ((q_sh0.take 164), rf, mem) (fun _ σ => σ = ((q_sh0.take 168), ct25r rf, ct25m mem)) := by
  refine q_enter (by decide +kernel) (by simp) (by decide) ?_
  show q_At yX4_init cX4_init 2 none 1 4 31103 _ 0 [(2, 163), (2, 1)] [] ((q_sh0.take 164), rf, mem)
  refine q_aload_n dX4_init_0 rfl rfl ?_
  refine q_objInit dX4_init_1 tw328 tw28 tw29 (by decide) (Nat.le_of_ble_eq_true rfl) ?_
  refine q_aload_n dX4_init_4 rfl rfl ?_
  refine qx_sipush dX4_init_5 rfl rfl ?_
  refine qx_newJ (kc := 3) (ks := 10096) (nI := 164) (sh' := (q_sh0.take 165)) dX4_init_8 tw348 rfl rfl rfl rfl rfl rfl rfl ?_
  refine q_putRF (ci := 4) (k := 1) (ty := tyX4 1) dX4_init_10 rfl (by decide) rfl tw330 rfl rfl rfl (by decide) rfl (fun _ => ⟨rfl, rfl⟩) rfl ?_
  refine q_aload_n dX4_init_13 rfl rfl ?_
  refine qx_sipush dX4_init_14 rfl rfl ?_
  refine qx_newI (kc := 2) (ks := 7096) (nI := 165) (sh' := (q_sh0.take 166)) dX4_init_17 tw63 rfl rfl rfl rfl rfl rfl rfl ?_
  refine q_putRF (ci := 4) (k := 2) (ty := tyX4 2) dX4_init_19 rfl (by decide) rfl tw331 rfl rfl rfl (by decide) rfl (fun _ => ⟨rfl, rfl⟩) rfl ?_
  refine q_aload_n dX4_init_22 rfl rfl ?_
  refine qx_sipush dX4_init_23 rfl rfl ?_
  refine qx_newI (kc := 1) (ks := 4096) (nI := 166) (sh' := (q_sh0.take 167)) dX4_init_26 tw63 rfl rfl rfl rfl rfl rfl rfl ?_
  refine q_putRF (ci := 4) (k := 3) (ty := tyX4 3) dX4_init_28 rfl (by decide) rfl tw332 rfl rfl rfl (by decide) rfl (fun _ => ⟨rfl, rfl⟩) rfl ?_
  refine q_aload_n dX4_init_31 rfl rfl ?_
  refine qx_sipush dX4_init_32 rfl rfl ?_
  refine qx_newI (kc := 0) (ks := 0) (nI := 167) (sh' := (q_sh0.take 168)) dX4_init_35 tw63 rfl rfl rfl rfl rfl rfl rfl ?_
  refine q_putRF (ci := 4) (k := 4) (ty := tyX4 4) dX4_init_37 rfl (by decide) rfl tw333 rfl rfl rfl (by decide) rfl (fun _ => ⟨rfl, rfl⟩) rfl ?_
  refine q_aload_n dX4_init_40 rfl rfl ?_
  refine q_aload_n dX4_init_41 rfl rfl ?_
  refine q_putRF (ci := 4) (k := 0) (ty := tyX4 0) dX4_init_42 rfl (by decide) rfl tw329 rfl rfl rfl (by decide) rfl (fun _ => ⟨rfl, rfl⟩) rfl ?_
  exact q_vret dX4_init_45 rfl
theorem ct25r_c {rf : qm} {c i : Int} (h : c < 163 ∧ 0 ≤ c) : ct25r rf c i = rf c i := by
  exact ((q_up_c (by omega)).trans ((q_up_c (by omega)).trans ((q_zc (by omega)).trans ((q_up_c (by omega)).trans ((q_zc (by omega)).trans ((q_up_c (by omega)).trans ((q_zc (by omega)).trans ((q_up_c (by omega)).trans (q_zc (by omega))))))))))
def ct26r (rf : qm) : qm := (q_up (q_z (q_up (q_z (q_up (q_z (q_up (q_z (q_up (q_z (q_up (q_z (q_up (q_z (q_up (q_z rf 171 (-1)) 170 0 171) 172 (-1)) 170 1 172) 173 (-1)) 170 2 173) 174 (-1)) 170 3 174) 175 (-1)) 170 4 175) 176 (-1)) 170 5 176) 177 (-1)) 170 6 177) 178 (-1)) 170 7 178)
def ct26m (mem : qm) : qm := (q_z (q_z (q_z (q_z (q_z (q_z (q_z (q_z mem 171 0) 172 0) 173 0) 174 0) 175 0) 176 0) 177 0) 178 0)
set_option maxRecDepth 20000 in
theorem ct26 {rf mem : qm} : q_Ev yX7_init cX7_init 1 none 1 8 628 [(2, 170)] ((q_sh0.take 171), rf, mem) (fun _ σ => σ = ((q_sh0.take 179), ct26r rf, ct26m mem)) := by
  refine q_enter (by decide +kernel) (by simp) (by decide) ?_
  show q_At yX7_init cX7_init 1 none 1 8 628 _ 0 [(2, 170)] [] ((q_sh0.take 171), rf, mem)
  refine q_aload_n dX7_init_0 rfl rfl ?_
  refine q_objInit dX7_init_1 tw69 tw28 tw29 (by decide) (Nat.le_of_ble_eq_true rfl) ?_
  refine q_aload_n dX7_init_4 rfl rfl ?_
  refine qx_sipush dX7_init_5 rfl rfl ?_
  refine qx_newI (kc := 7) (ks := 88) (nI := 171) (sh' := (q_sh0.take 172)) dX7_init_8 tw63 rfl rfl rfl rfl rfl rfl rfl ?_
  refine q_putRF (ci := 7) (k := 0) (ty := tyX7 0) dX7_init_10 rfl (by decide) rfl tw70 rfl rfl rfl (by decide) rfl (fun _ => ⟨rfl, rfl⟩) rfl ?_
  refine q_aload_n dX7_init_13 rfl rfl ?_
  refine qx_bipush dX7_init_14 rfl rfl ?_
  refine qx_newI (kc := 6) (ks := 79) (nI := 172) (sh' := (q_sh0.take 173)) dX7_init_16 tw63 rfl rfl rfl rfl rfl rfl rfl ?_
  refine q_putRF (ci := 7) (k := 1) (ty := tyX7 1) dX7_init_18 rfl (by decide) rfl tw71 rfl rfl rfl (by decide) rfl (fun _ => ⟨rfl, rfl⟩) rfl ?_
  refine q_aload_n dX7_init_21 rfl rfl ?_
  refine qx_bipush dX7_init_22 rfl rfl ?_
  refine qx_newI (kc := 5) (ks := 70) (nI := 173) (sh' := (q_sh0.take 174)) dX7_init_24 tw63 rfl rfl rfl rfl rfl rfl rfl ?_
  refine q_putRF (ci := 7) (k := 2) (ty := tyX7 2) dX7_init_26 rfl (by decide) rfl tw73 rfl rfl rfl (by decide) rfl (fun _ => ⟨rfl, rfl⟩) rfl ?_
  refine q_aload_n dX7_init_29 rfl rfl ?_
  refine qx_bipush dX7_init_30 rfl rfl ?_
  refine qx_newI (kc := 4) (ks := 61) (nI := 174) (sh' := (q_sh0.take 175)) dX7_init_32 tw63 rfl rfl rfl rfl rfl rfl rfl ?_
  refine q_putRF (ci := 7) (k := 3) (ty := tyX7 3) dX7_init_34 rfl (by decide) rfl tw79 rfl rfl rfl (by decide) rfl (fun _ => ⟨rfl, rfl⟩) rfl ?_
  refine q_aload_n dX7_init_37 rfl rfl ?_
  refine qx_bipush dX7_init_38 rfl rfl ?_
  refine qx_newI (kc := 3) (ks := 52) (nI := 175) (sh' := (q_sh0.take 176)) dX7_init_40 tw63 rfl rfl rfl rfl rfl rfl rfl ?_
  refine q_putRF (ci := 7) (k := 4) (ty := tyX7 4) dX7_init_42 rfl (by decide) rfl tw84 rfl rfl rfl (by decide) rfl (fun _ => ⟨rfl, rfl⟩) rfl ?_
  refine q_aload_n dX7_init_45 rfl rfl ?_
  refine qx_bipush dX7_init_46 rfl rfl ?_
  refine qx_newI (kc := 2) (ks := 43) (nI := 176) (sh' := (q_sh0.take 177)) dX7_init_48 tw63 rfl rfl rfl rfl rfl rfl rfl ?_
  refine q_putRF (ci := 7) (k := 5) (ty := tyX7 5) dX7_init_50 rfl (by decide) rfl tw89 rfl rfl rfl (by decide) rfl (fun _ => ⟨rfl, rfl⟩) rfl ?_
  refine q_aload_n dX7_init_53 rfl rfl ?_
  refine qx_bipush dX7_init_54 rfl rfl ?_
  refine qx_newI (kc := 1) (ks := 7) (nI := 177) (sh' := (q_sh0.take 178)) dX7_init_56 tw63 rfl rfl rfl rfl rfl rfl rfl ?_
  refine q_putRF (ci := 7) (k := 6) (ty := tyX7 6) dX7_init_58 rfl (by decide) rfl tw94 rfl rfl rfl (by decide) rfl (fun _ => ⟨rfl, rfl⟩) rfl ?_
  refine q_aload_n dX7_init_61 rfl rfl ?_
  refine qx_bipush dX7_init_62 rfl rfl ?_
  refine qx_newI (kc := 0) (ks := 0) (nI := 178) (sh' := (q_sh0.take 179)) dX7_init_64 tw63 rfl rfl rfl rfl rfl rfl rfl ?_
  refine q_putRF (ci := 7) (k := 7) (ty := tyX7 7) dX7_init_66 rfl (by decide) rfl tw98 rfl rfl rfl (by decide) rfl (fun _ => ⟨rfl, rfl⟩) rfl ?_
  exact q_vret dX7_init_69 rfl
theorem ct26r_c {rf : qm} {c i : Int} (h : c < 170 ∧ 0 ≤ c) : ct26r rf c i = rf c i := by
  exact ((q_up_c (by omega)).trans ((q_zc (by omega)).trans ((q_up_c (by omega)).trans ((q_zc (by omega)).trans ((q_up_c (by omega)).trans ((q_zc (by omega)).trans ((q_up_c (by omega)).trans ((q_zc (by omega)).trans ((q_up_c (by omega)).trans ((q_zc (by omega)).trans ((q_up_c (by omega)).trans ((q_zc (by omega)).trans ((q_up_c (by omega)).trans ((q_zc (by omega)).trans ((q_up_c (by omega)).trans (q_zc (by omega)))))))))))))))))
def ct27r (rf : qm) : qm := (q_up (q_z (q_up (q_z (q_up (q_z (q_up (q_z (q_up (q_z (q_up (q_z (q_up (q_z (q_up (q_z rf 180 (-1)) 179 0 180) 181 (-1)) 179 1 181) 182 (-1)) 179 2 182) 183 (-1)) 179 3 183) 184 (-1)) 179 4 184) 185 (-1)) 179 5 185) 186 (-1)) 179 6 186) 187 (-1)) 179 7 187)
def ct27m (mem : qm) : qm := (q_z (q_z (q_z (q_z (q_z (q_z (q_z (q_z mem 180 0) 181 0) 182 0) 183 0) 184 0) 185 0) 186 0) 187 0)
set_option maxRecDepth 20000 in
theorem ct27 {rf mem : qm} : q_Ev yX7_init cX7_init 1 none 1 8 628 [(2, 179)] ((q_sh0.take 180), rf, mem) (fun _ σ => σ = ((q_sh0.take 188), ct27r rf, ct27m mem)) := by
  refine q_enter (by decide +kernel) (by simp) (by decide) ?_
  show q_At yX7_init cX7_init 1 none 1 8 628 _ 0 [(2, 179)] [] ((q_sh0.take 180), rf, mem)
  refine q_aload_n dX7_init_0 rfl rfl ?_
  refine q_objInit dX7_init_1 tw69 tw28 tw29 (by decide) (Nat.le_of_ble_eq_true rfl) ?_
  refine q_aload_n dX7_init_4 rfl rfl ?_
  refine qx_sipush dX7_init_5 rfl rfl ?_
  refine qx_newI (kc := 7) (ks := 88) (nI := 180) (sh' := (q_sh0.take 181)) dX7_init_8 tw63 rfl rfl rfl rfl rfl rfl rfl ?_
  refine q_putRF (ci := 7) (k := 0) (ty := tyX7 0) dX7_init_10 rfl (by decide) rfl tw70 rfl rfl rfl (by decide) rfl (fun _ => ⟨rfl, rfl⟩) rfl ?_
  refine q_aload_n dX7_init_13 rfl rfl ?_
  refine qx_bipush dX7_init_14 rfl rfl ?_
  refine qx_newI (kc := 6) (ks := 79) (nI := 181) (sh' := (q_sh0.take 182)) dX7_init_16 tw63 rfl rfl rfl rfl rfl rfl rfl ?_
  refine q_putRF (ci := 7) (k := 1) (ty := tyX7 1) dX7_init_18 rfl (by decide) rfl tw71 rfl rfl rfl (by decide) rfl (fun _ => ⟨rfl, rfl⟩) rfl ?_
  refine q_aload_n dX7_init_21 rfl rfl ?_
  refine qx_bipush dX7_init_22 rfl rfl ?_
  refine qx_newI (kc := 5) (ks := 70) (nI := 182) (sh' := (q_sh0.take 183)) dX7_init_24 tw63 rfl rfl rfl rfl rfl rfl rfl ?_
  refine q_putRF (ci := 7) (k := 2) (ty := tyX7 2) dX7_init_26 rfl (by decide) rfl tw73 rfl rfl rfl (by decide) rfl (fun _ => ⟨rfl, rfl⟩) rfl ?_
  refine q_aload_n dX7_init_29 rfl rfl ?_
  refine qx_bipush dX7_init_30 rfl rfl ?_
  refine qx_newI (kc := 4) (ks := 61) (nI := 183) (sh' := (q_sh0.take 184)) dX7_init_32 tw63 rfl rfl rfl rfl rfl rfl rfl ?_
  refine q_putRF (ci := 7) (k := 3) (ty := tyX7 3) dX7_init_34 rfl (by decide) rfl tw79 rfl rfl rfl (by decide) rfl (fun _ => ⟨rfl, rfl⟩) rfl ?_
  refine q_aload_n dX7_init_37 rfl rfl ?_
  refine qx_bipush dX7_init_38 rfl rfl ?_
  refine qx_newI (kc := 3) (ks := 52) (nI := 184) (sh' := (q_sh0.take 185)) dX7_init_40 tw63 rfl rfl rfl rfl rfl rfl rfl ?_
  refine q_putRF (ci := 7) (k := 4) (ty := tyX7 4) dX7_init_42 rfl (by decide) rfl tw84 rfl rfl rfl (by decide) rfl (fun _ => ⟨rfl, rfl⟩) rfl ?_
  refine q_aload_n dX7_init_45 rfl rfl ?_
  refine qx_bipush dX7_init_46 rfl rfl ?_
  refine qx_newI (kc := 2) (ks := 43) (nI := 185) (sh' := (q_sh0.take 186)) dX7_init_48 tw63 rfl rfl rfl rfl rfl rfl rfl ?_
  refine q_putRF (ci := 7) (k := 5) (ty := tyX7 5) dX7_init_50 rfl (by decide) rfl tw89 rfl rfl rfl (by decide) rfl (fun _ => ⟨rfl, rfl⟩) rfl ?_
  refine q_aload_n dX7_init_53 rfl rfl ?_
  refine qx_bipush dX7_init_54 rfl rfl ?_
  refine qx_newI (kc := 1) (ks := 7) (nI := 186) (sh' := (q_sh0.take 187)) dX7_init_56 tw63 rfl rfl rfl rfl rfl rfl rfl ?_
  refine q_putRF (ci := 7) (k := 6) (ty := tyX7 6) dX7_init_58 rfl (by decide) rfl tw94 rfl rfl rfl (by decide) rfl (fun _ => ⟨rfl, rfl⟩) rfl ?_
  refine q_aload_n dX7_init_61 rfl rfl ?_
  refine qx_bipush dX7_init_62 rfl rfl ?_
  refine qx_newI (kc := 0) (ks := 0) (nI := 187) (sh' := (q_sh0.take 188)) dX7_init_64 tw63 rfl rfl rfl rfl rfl rfl rfl ?_
  refine q_putRF (ci := 7) (k := 7) (ty := tyX7 7) dX7_init_66 rfl (by decide) rfl tw98 rfl rfl rfl (by decide) rfl (fun _ => ⟨rfl, rfl⟩) rfl ?_
  exact q_vret dX7_init_69 rfl
theorem ct27r_c {rf : qm} {c i : Int} (h : c < 179 ∧ 0 ≤ c) : ct27r rf c i = rf c i := by
  exact ((q_up_c (by omega)).trans ((q_zc (by omega)).trans ((q_up_c (by omega)).trans ((q_zc (by omega)).trans ((q_up_c (by omega)).trans ((q_zc (by omega)).trans ((q_up_c (by omega)).trans ((q_zc (by omega)).trans ((q_up_c (by omega)).trans ((q_zc (by omega)).trans ((q_up_c (by omega)).trans ((q_zc (by omega)).trans ((q_up_c (by omega)).trans ((q_zc (by omega)).trans ((q_up_c (by omega)).trans (q_zc (by omega)))))))))))))))))
def ct1r (rf : qm) : qm := (q_up (ct27r (q_z (q_up (ct26r (q_z (q_up (q_z (q_up (q_z (q_up (ct25r (q_z (q_up (ct24r (q_z (q_up (ct23r (q_z (q_up (ct22r (q_z (q_up (ct21r (q_z (q_up (ct20r (q_z (q_up (q_z (q_up (q_z (q_up (ct7r (q_z (q_up (ct6r (q_z (q_up (ct5r (q_z (q_up (ct4r (q_z (q_up (ct3r (q_z (q_up (ct2r (q_z rf 1 (-1))) 0 0 1) 5 (-1))) 0 1 5) 14 (-1))) 0 2 14) 23 (-1))) 0 3 23) 26 (-1))) 0 4 26) 33 (-1))) 0 5 33) 143 (-1)) 0 6 143) 144 (-1)) 0 7 144) 145 (-1))) 0 8 145) 147 (-1))) 0 9 147) 149 (-1))) 0 10 149) 154 (-1))) 0 11 154) 159 (-1))) 0 12 159) 163 (-1))) 0 13 163) 168 (-1)) 0 14 168) 169 (-1)) 0 15 169) 170 (-1))) 143 0 170) 179 (-1))) 143 1 179)
def ct1m (mem : qm) : qm := (q_up (ct27m (q_z (q_up (ct26m (q_z (q_z (q_z (ct25m (q_z (ct24m (q_z (ct23m (q_z (ct22m (q_z (ct21m (q_z (ct20m (q_z (q_z (q_z (ct7m (q_z (ct6m (q_z (ct5m (q_z (ct4m (q_z (ct3m (q_z (ct2m (q_z mem 1 0)) 5 0)) 14 0)) 23 0)) 26 0)) 33 0)) 143 0) 144 0) 145 0)) 147 0)) 149 0)) 154 0)) 159 0)) 163 0)) 168 0) 169 0) 170 0)) 144 0 (-1)) 179 0)) 144 1 (-1))
set_option maxRecDepth 20000 in
theorem ct1 {rf mem : qm} : q_Ev yX11_init cX11_init 2 none 3 187 42164 [(2, 0)] ((q_sh0.take 1), rf, mem) (fun _ σ => σ = ((q_sh0.take 188), ct1r rf, ct1m mem)) := by
  refine q_enter (by decide +kernel) (by simp) (by decide) ?_
  show q_At yX11_init cX11_init 2 none 3 187 42164 _ 0 [(2, 0), (4, 0)] [] ((q_sh0.take 1), rf, mem)
  refine q_aload_n dX11_init_0 rfl rfl ?_
  refine q_objInit dX11_init_1 tw27 tw28 tw29 (by decide) (Nat.le_of_ble_eq_true rfl) ?_
  refine q_aload_n dX11_init_4 rfl rfl ?_
  refine qx_new (ci := 9) (kc := 186) (ks := 42160) (nI := 1) (sh' := (q_sh0.take 2)) dX11_init_5 rfl tw30 tw31 tw2 rfl rfl rfl rfl rfl ?_
  refine q_dup dX11_init_8 (fun h => by cases h) ?_
  refine qx_invIN (kc := 183) (ks := 42133) (host := RX11) [] [(2, 1), (2, 1), (2, 0)] rfl qM_X9_init dX11_init_9 (by decide) rfl rfl rfl rfl rfl rfl ct2 ?_
  refine q_putRF (ci := 11) (k := 0) (ty := tyX11 0) dX11_init_12 rfl (by decide) rfl tw349 rfl rfl rfl (by decide) rfl (fun _ => ⟨rfl, rfl⟩) rfl ?_
  refine q_aload_n dX11_init_15 rfl rfl ?_
  refine qx_new (ci := 7) (kc := 182) (ks := 42123) (nI := 5) (sh' := (q_sh0.take 6)) dX11_init_16 rfl tw64 tw65 tw3 rfl rfl rfl rfl rfl ?_
  refine q_dup dX11_init_19 (fun h => by cases h) ?_
  refine qx_invIN (kc := 174) (ks := 41495) (host := RX11) [] [(2, 5), (2, 5), (2, 0)] rfl qM_X7_init dX11_init_20 (by decide) rfl rfl rfl rfl rfl rfl ct3 ?_
  refine q_putRF (ci := 11) (k := 1) (ty := tyX11 1) dX11_init_23 rfl (by decide) rfl tw350 rfl rfl rfl (by decide) rfl (fun _ => ⟨rfl, rfl⟩) rfl ?_
  refine q_aload_n dX11_init_26 rfl rfl ?_
  refine qx_new (ci := 7) (kc := 173) (ks := 41485) (nI := 14) (sh' := (q_sh0.take 15)) dX11_init_27 rfl tw64 tw65 tw3 rfl rfl rfl rfl rfl ?_
  refine q_dup dX11_init_30 (fun h => by cases h) ?_
  refine qx_invIN (kc := 165) (ks := 40857) (host := RX11) [] [(2, 14), (2, 14), (2, 0)] rfl qM_X7_init dX11_init_31 (by decide) rfl rfl rfl rfl rfl rfl ct4 ?_
  refine q_putRF (ci := 11) (k := 2) (ty := tyX11 2) dX11_init_34 rfl (by decide) rfl tw351 rfl rfl rfl (by decide) rfl (fun _ => ⟨rfl, rfl⟩) rfl ?_
  refine q_aload_n dX11_init_37 rfl rfl ?_
  refine qx_new (ci := 0) (kc := 164) (ks := 40854) (nI := 23) (sh' := (q_sh0.take 24)) dX11_init_38 rfl tw128 tw129 tw4 rfl rfl rfl rfl rfl ?_
  refine q_dup dX11_init_41 (fun h => by cases h) ?_
  refine q_aload_n dX11_init_42 rfl rfl ?_
  refine q_getR (ci := 11) (k := 0) (r := 1) dX11_init_43 rfl (by decide) rfl tw349 (by decide) rfl ((q_zc (by decide)).trans ((q_up_i (by decide)).trans (((ct4r_c (by decide))).trans ((q_zc (by decide)).trans ((q_up_i (by decide)).trans (((ct3r_c (by decide))).trans ((q_zc (by decide)).trans q_up_s))))))) (by decide) ?_
  refine qx_invI (kc := 162) (ks := 40764) [(2, 1)] [(2, 1), (2, 23), (2, 23), (2, 0)] rfl qM_X0_init dX11_init_46 tw130 rfl rfl rfl rfl rfl rfl ct5 ?_
  refine q_putRF (ci := 11) (k := 3) (ty := tyX11 3) dX11_init_49 rfl (by decide) rfl tw352 rfl rfl rfl (by decide) rfl (fun _ => ⟨rfl, rfl⟩) rfl ?_
  refine q_aload_n dX11_init_52 rfl rfl ?_
  refine qx_new (ci := 1) (kc := 161) (ks := 40755) (nI := 26) (sh' := (q_sh0.take 27)) dX11_init_53 rfl tw144 tw145 tw5 rfl rfl rfl rfl rfl ?_
  refine q_dup dX11_init_56 (fun h => by cases h) ?_
  refine q_aload_n dX11_init_57 rfl rfl ?_
  refine q_getR (ci := 11) (k := 0) (r := 1) dX11_init_58 rfl (by decide) rfl tw349 (by decide) rfl ((q_zc (by decide)).trans ((q_up_i (by decide)).trans (((ct5r_c (by decide))).trans ((q_zc (by decide)).trans ((q_up_i (by decide)).trans (((ct4r_c (by decide))).trans ((q_zc (by decide)).trans ((q_up_i (by decide)).trans (((ct3r_c (by decide))).trans ((q_zc (by decide)).trans q_up_s)))))))))) (by decide) ?_
  refine qx_invI (kc := 155) (ks := 40701) [(2, 1)] [(2, 1), (2, 26), (2, 26), (2, 0)] rfl qM_X1_init dX11_init_61 tw146 rfl rfl rfl rfl rfl rfl ct6 ?_
  refine q_putRF (ci := 11) (k := 4) (ty := tyX11 4) dX11_init_64 rfl (by decide) rfl tw353 rfl rfl rfl (by decide) rfl (fun _ => ⟨rfl, rfl⟩) rfl ?_
  refine q_aload_n dX11_init_67 rfl rfl ?_
  refine qx_new (ci := 3) (kc := 154) (ks := 40698) (nI := 33) (sh' := (q_sh0.take 34)) dX11_init_68 rfl tw183 tw184 tw6 rfl rfl rfl rfl rfl ?_
  refine q_dup dX11_init_71 (fun h => by cases h) ?_
  refine qx_invI (kc := 45) (ks := 33030) [] [(2, 33), (2, 33), (2, 0)] rfl qM_X3_init dX11_init_72 tw185 rfl rfl rfl rfl rfl rfl ct7 ?_
  refine q_putRF (ci := 11) (k := 5) (ty := tyX11 5) dX11_init_75 rfl (by decide) rfl tw354 rfl rfl rfl (by decide) rfl (fun _ => ⟨rfl, rfl⟩) rfl ?_
  refine q_aload_n dX11_init_78 rfl rfl ?_
  refine qx_iconst dX11_init_79 rfl rfl ?_
  refine qx_newQ (kc := 44) (ks := 33028) (nI := 143) (sh' := (q_sh0.take 144)) dX11_init_80 tw64 rfl rfl rfl rfl rfl rfl rfl ?_
  refine q_putRF (ci := 11) (k := 6) (ty := tyX11 6) dX11_init_83 rfl (by decide) rfl tw355 rfl rfl rfl (by decide) rfl (fun _ => ⟨rfl, rfl⟩) rfl ?_
  refine q_aload_n dX11_init_86 rfl rfl ?_
  refine qx_iconst dX11_init_87 rfl rfl ?_
  refine qx_newI (kc := 43) (ks := 33026) (nI := 144) (sh' := (q_sh0.take 145)) dX11_init_88 tw63 rfl rfl rfl rfl rfl rfl rfl ?_
  refine q_putRF (ci := 11) (k := 7) (ty := tyX11 7) dX11_init_90 rfl (by decide) rfl tw356 rfl rfl rfl (by decide) rfl (fun _ => ⟨rfl, rfl⟩) rfl ?_
  refine q_aload_n dX11_init_93 rfl rfl ?_
  refine qx_new (ci := 6) (kc := 42) (ks := 33021) (nI := 145) (sh' := (q_sh0.take 146)) dX11_init_94 rfl tw203 tw204 tw7 rfl rfl rfl rfl rfl ?_
  refine q_dup dX11_init_97 (fun h => by cases h) ?_
  refine qx_invIN (kc := 41) (ks := 32941) (host := RX11) [] [(2, 145), (2, 145), (2, 0)] rfl qM_X6_init dX11_init_98 (by decide) rfl rfl rfl rfl rfl rfl ct20 ?_
  refine q_putRF (ci := 11) (k := 8) (ty := tyX11 8) dX11_init_101 rfl (by decide) rfl tw357 rfl rfl rfl (by decide) rfl (fun _ => ⟨rfl, rfl⟩) rfl ?_
  refine q_aload_n dX11_init_104 rfl rfl ?_
  refine qx_new (ci := 10) (kc := 40) (ks := 32936) (nI := 147) (sh' := (q_sh0.take 148)) dX11_init_105 rfl tw228 tw229 tw8 rfl rfl rfl rfl rfl ?_
  refine q_dup dX11_init_108 (fun h => by cases h) ?_
  refine q_aload_n dX11_init_109 rfl rfl ?_
  refine q_getR (ci := 11) (k := 8) (r := 145) dX11_init_110 rfl (by decide) rfl tw357 (by decide) rfl ((q_zc (by decide)).trans q_up_s) (by decide) ?_
  refine q_aload_n dX11_init_113 rfl rfl ?_
  refine q_getR (ci := 11) (k := 0) (r := 1) dX11_init_114 rfl (by decide) rfl tw349 (by decide) rfl ((q_zc (by decide)).trans ((q_up_i (by decide)).trans (((ct20r_c (by decide))).trans ((q_zc (by decide)).trans ((q_up_i (by decide)).trans ((q_zc (by decide)).trans ((q_up_i (by decide)).trans ((q_zc (by decide)).trans ((q_up_i (by decide)).trans (((ct7r_c (by decide))).trans ((q_zc (by decide)).trans ((q_up_i (by decide)).trans (((ct6r_c (by decide))).trans ((q_zc (by decide)).trans ((q_up_i (by decide)).trans (((ct5r_c (by decide))).trans ((q_zc (by decide)).trans ((q_up_i (by decide)).trans (((ct4r_c (by decide))).trans ((q_zc (by decide)).trans ((q_up_i (by decide)).trans (((ct3r_c (by decide))).trans ((q_zc (by decide)).trans q_up_s))))))))))))))))))))))) (by decide) ?_
  refine q_aload_n dX11_init_117 rfl rfl ?_
  refine q_getR (ci := 11) (k := 1) (r := 5) dX11_init_118 rfl (by decide) rfl tw350 (by decide) rfl ((q_zc (by decide)).trans ((q_up_i (by decide)).trans (((ct20r_c (by decide))).trans ((q_zc (by decide)).trans ((q_up_i (by decide)).trans ((q_zc (by decide)).trans ((q_up_i (by decide)).trans ((q_zc (by decide)).trans ((q_up_i (by decide)).trans (((ct7r_c (by decide))).trans ((q_zc (by decide)).trans ((q_up_i (by decide)).trans (((ct6r_c (by decide))).trans ((q_zc (by decide)).trans ((q_up_i (by decide)).trans (((ct5r_c (by decide))).trans ((q_zc (by decide)).trans ((q_up_i (by decide)).trans (((ct4r_c (by decide))).trans ((q_zc (by decide)).trans q_up_s)))))))))))))))))))) (by decide) ?_
  refine qx_invI (kc := 39) (ks := 32900) [(2, 145), (2, 1), (2, 5)] [(2, 5), (2, 1), (2, 145), (2, 147), (2, 147), (2, 0)] rfl qM_X10_init dX11_init_121 tw230 rfl rfl rfl rfl rfl rfl ct21 ?_
  refine q_putRF (ci := 11) (k := 9) (ty := tyX11 9) dX11_init_124 rfl (by decide) rfl tw358 rfl rfl rfl (by decide) rfl (fun _ => ⟨rfl, rfl⟩) rfl ?_
  refine q_aload_n dX11_init_127 rfl rfl ?_
  refine qx_new (ci := 2) (kc := 38) (ks := 32894) (nI := 149) (sh' := (q_sh0.take 150)) dX11_init_128 rfl tw250 tw251 tw9 rfl rfl rfl rfl rfl ?_
  refine q_dup dX11_init_131 (fun h => by cases h) ?_
  refine qx_invIN (kc := 34) (ks := 32764) (host := RX11) [] [(2, 149), (2, 149), (2, 0)] rfl qM_X2_init dX11_init_132 (by decide) rfl rfl rfl rfl rfl rfl ct22 ?_
  refine q_putRF (ci := 11) (k := 10) (ty := tyX11 10) dX11_init_135 rfl (by decide) rfl tw359 rfl rfl rfl (by decide) rfl (fun _ => ⟨rfl, rfl⟩) rfl ?_
  refine q_aload_n dX11_init_138 rfl rfl ?_
  refine qx_new (ci := 8) (kc := 33) (ks := 32759) (nI := 154) (sh' := (q_sh0.take 155)) dX11_init_139 rfl tw276 tw277 tw10 rfl rfl rfl rfl rfl ?_
  refine q_dup dX11_init_142 (fun h => by cases h) ?_
  refine qx_invIN (kc := 29) (ks := 32519) (host := RX11) [] [(2, 154), (2, 154), (2, 0)] rfl qM_X8_init dX11_init_143 (by decide) rfl rfl rfl rfl rfl rfl ct23 ?_
  refine q_putRF (ci := 11) (k := 11) (ty := tyX11 11) dX11_init_146 rfl (by decide) rfl tw360 rfl rfl rfl (by decide) rfl (fun _ => ⟨rfl, rfl⟩) rfl ?_
  refine q_aload_n dX11_init_149 rfl rfl ?_
  refine qx_new (ci := 5) (kc := 28) (ks := 32515) (nI := 159) (sh' := (q_sh0.take 160)) dX11_init_150 rfl tw303 tw304 tw11 rfl rfl rfl rfl rfl ?_
  refine q_dup dX11_init_153 (fun h => by cases h) ?_
  refine qx_invIN (kc := 25) (ks := 32485) (host := RX11) [] [(2, 159), (2, 159), (2, 0)] rfl qM_X5_init dX11_init_154 (by decide) rfl rfl rfl rfl rfl rfl ct24 ?_
  refine q_putRF (ci := 11) (k := 12) (ty := tyX11 12) dX11_init_157 rfl (by decide) rfl tw361 rfl rfl rfl (by decide) rfl (fun _ => ⟨rfl, rfl⟩) rfl ?_
  refine q_aload_n dX11_init_160 rfl rfl ?_
  refine qx_new (ci := 4) (kc := 24) (ks := 32479) (nI := 163) (sh' := (q_sh0.take 164)) dX11_init_161 rfl tw323 tw324 tw12 rfl rfl rfl rfl rfl ?_
  refine q_dup dX11_init_164 (fun h => by cases h) ?_
  refine q_aload_n dX11_init_165 rfl rfl ?_
  refine q_getR (ci := 11) (k := 0) (r := 1) dX11_init_166 rfl (by decide) rfl tw349 (by decide) rfl ((q_zc (by decide)).trans ((q_up_i (by decide)).trans (((ct24r_c (by decide))).trans ((q_zc (by decide)).trans ((q_up_i (by decide)).trans (((ct23r_c (by decide))).trans ((q_zc (by decide)).trans ((q_up_i (by decide)).trans (((ct22r_c (by decide))).trans ((q_zc (by decide)).trans ((q_up_i (by decide)).trans (((ct21r_c (by decide))).trans ((q_zc (by decide)).trans ((q_up_i (by decide)).trans (((ct20r_c (by decide))).trans ((q_zc (by decide)).trans ((q_up_i (by decide)).trans ((q_zc (by decide)).trans ((q_up_i (by decide)).trans ((q_zc (by decide)).trans ((q_up_i (by decide)).trans (((ct7r_c (by decide))).trans ((q_zc (by decide)).trans ((q_up_i (by decide)).trans (((ct6r_c (by decide))).trans ((q_zc (by decide)).trans ((q_up_i (by decide)).trans (((ct5r_c (by decide))).trans ((q_zc (by decide)).trans ((q_up_i (by decide)).trans (((ct4r_c (by decide))).trans ((q_zc (by decide)).trans ((q_up_i (by decide)).trans (((ct3r_c (by decide))).trans ((q_zc (by decide)).trans q_up_s))))))))))))))))))))))))))))))))))) (by decide) ?_
  refine qx_invI (kc := 20) (ks := 1376) [(2, 1)] [(2, 1), (2, 163), (2, 163), (2, 0)] rfl qM_X4_init dX11_init_169 tw325 rfl rfl rfl rfl rfl rfl ct25 ?_
  refine q_putRF (ci := 11) (k := 13) (ty := tyX11 13) dX11_init_172 rfl (by decide) rfl tw362 rfl rfl rfl (by decide) rfl (fun _ => ⟨rfl, rfl⟩) rfl ?_
  refine q_aload_n dX11_init_175 rfl rfl ?_
  refine qx_bipush dX11_init_176 rfl rfl ?_
  refine qx_newI (kc := 19) (ks := 1286) (nI := 168) (sh' := (q_sh0.take 169)) dX11_init_178 tw63 rfl rfl rfl rfl rfl rfl rfl ?_
  refine q_putRF (ci := 11) (k := 14) (ty := tyX11 14) dX11_init_180 rfl (by decide) rfl tw363 rfl rfl rfl (by decide) rfl (fun _ => ⟨rfl, rfl⟩) rfl ?_
  refine q_aload_n dX11_init_183 rfl rfl ?_
  refine qx_bipush dX11_init_184 rfl rfl ?_
  refine qx_newI (kc := 18) (ks := 1276) (nI := 169) (sh' := (q_sh0.take 170)) dX11_init_186 tw63 rfl rfl rfl rfl rfl rfl rfl ?_
  refine q_putRF (ci := 11) (k := 15) (ty := tyX11 15) dX11_init_188 rfl (by decide) rfl tw364 rfl rfl rfl (by decide) rfl (fun _ => ⟨rfl, rfl⟩) rfl ?_
  refine qx_iconst dX11_init_191 rfl rfl ?_
  refine qx_istore_n (L' := [(2, 0), (0, 0)]) dX11_init_192 rfl rfl rfl rfl ?_
  refine q_iload_n dX11_init_193 rfl rfl ?_
  refine qx_iconst dX11_init_194 rfl rfl ?_
  refine qx_icmp_ge (tgt := 224) dX11_init_195 (by decide) (fun z => absurd z (by decide)) (fun _ => ?_)
  refine q_aload_n dX11_init_198 rfl rfl ?_
  refine q_getR (ci := 11) (k := 6) (r := 143) dX11_init_199 rfl (by decide) rfl tw355 (by decide) rfl ((q_up_i (by decide)).trans ((q_zc (by decide)).trans ((q_up_i (by decide)).trans ((q_zc (by decide)).trans ((q_up_i (by decide)).trans (((ct25r_c (by decide))).trans ((q_zc (by decide)).trans ((q_up_i (by decide)).trans (((ct24r_c (by decide))).trans ((q_zc (by decide)).trans ((q_up_i (by decide)).trans (((ct23r_c (by decide))).trans ((q_zc (by decide)).trans ((q_up_i (by decide)).trans (((ct22r_c (by decide))).trans ((q_zc (by decide)).trans ((q_up_i (by decide)).trans (((ct21r_c (by decide))).trans ((q_zc (by decide)).trans ((q_up_i (by decide)).trans (((ct20r_c (by decide))).trans ((q_zc (by decide)).trans ((q_up_i (by decide)).trans ((q_zc (by decide)).trans q_up_s)))))))))))))))))))))))) (by decide) ?_
  refine q_iload_n dX11_init_202 rfl rfl ?_
  refine qx_new (ci := 7) (kc := 17) (ks := 1266) (nI := 170) (sh' := (q_sh0.take 171)) dX11_init_203 rfl tw64 tw65 tw3 rfl rfl rfl rfl rfl ?_
  refine q_dup dX11_init_206 (fun h => by cases h) ?_
  refine qx_invIN (kc := 9) (ks := 638) (host := RX11) [] [(2, 170), (2, 170), (0, 0), (2, 143)] rfl qM_X7_init dX11_init_207 (by decide) rfl rfl rfl rfl rfl rfl ct26 ?_
  refine q_aast dX11_init_210 rfl (by decide) (by decide) rfl ?_
  refine q_aload_n dX11_init_211 rfl rfl ?_
  refine q_getR (ci := 11) (k := 7) (r := 144) dX11_init_212 rfl (by decide) rfl tw356 (by decide) rfl ((q_up_c (by decide)).trans (((ct26r_c (by decide))).trans ((q_zc (by decide)).trans ((q_up_i (by decide)).trans ((q_zc (by decide)).trans ((q_up_i (by decide)).trans ((q_zc (by decide)).trans ((q_up_i (by decide)).trans (((ct25r_c (by decide))).trans ((q_zc (by decide)).trans ((q_up_i (by decide)).trans (((ct24r_c (by decide))).trans ((q_zc (by decide)).trans ((q_up_i (by decide)).trans (((ct23r_c (by decide))).trans ((q_zc (by decide)).trans ((q_up_i (by decide)).trans (((ct22r_c (by decide))).trans ((q_zc (by decide)).trans ((q_up_i (by decide)).trans (((ct21r_c (by decide))).trans ((q_zc (by decide)).trans ((q_up_i (by decide)).trans (((ct20r_c (by decide))).trans ((q_zc (by decide)).trans q_up_s))))))))))))))))))))))))) (by decide) ?_
  refine q_iload_n dX11_init_215 rfl rfl ?_
  refine qx_iconst dX11_init_216 rfl rfl ?_
  refine q_iast dX11_init_217 rfl (by decide) (by decide) ?_
  refine qx_iinc (L' := [(2, 0), (0, 1)]) dX11_init_218 rfl rfl rfl (q_inb_ok rfl) rfl ?_
  refine q_goto (tgt := 193) dX11_init_221 (by decide) ?_
  refine q_iload_n dX11_init_193 rfl rfl ?_
  refine qx_iconst dX11_init_194 rfl rfl ?_
  refine qx_icmp_ge (tgt := 224) dX11_init_195 (by decide) (fun z => absurd z (by decide)) (fun _ => ?_)
  refine q_aload_n dX11_init_198 rfl rfl ?_
  refine q_getR (ci := 11) (k := 6) (r := 143) dX11_init_199 rfl (by decide) rfl tw355 (by decide) rfl ((q_up_c (by decide)).trans (((ct26r_c (by decide))).trans ((q_zc (by decide)).trans ((q_up_i (by decide)).trans ((q_zc (by decide)).trans ((q_up_i (by decide)).trans ((q_zc (by decide)).trans ((q_up_i (by decide)).trans (((ct25r_c (by decide))).trans ((q_zc (by decide)).trans ((q_up_i (by decide)).trans (((ct24r_c (by decide))).trans ((q_zc (by decide)).trans ((q_up_i (by decide)).trans (((ct23r_c (by decide))).trans ((q_zc (by decide)).trans ((q_up_i (by decide)).trans (((ct22r_c (by decide))).trans ((q_zc (by decide)).trans ((q_up_i (by decide)).trans (((ct21r_c (by decide))).trans ((q_zc (by decide)).trans ((q_up_i (by decide)).trans (((ct20r_c (by decide))).trans ((q_zc (by decide)).trans ((q_up_i (by decide)).trans ((q_zc (by decide)).trans q_up_s))))))))))))))))))))))))))) (by decide) ?_
  refine q_iload_n dX11_init_202 rfl rfl ?_
  refine qx_new (ci := 7) (kc := 8) (ks := 628) (nI := 179) (sh' := (q_sh0.take 180)) dX11_init_203 rfl tw64 tw65 tw3 rfl rfl rfl rfl rfl ?_
  refine q_dup dX11_init_206 (fun h => by cases h) ?_
  refine qx_invIN (kc := 0) (ks := 0) (host := RX11) [] [(2, 179), (2, 179), (0, 1), (2, 143)] rfl qM_X7_init dX11_init_207 (by decide) rfl rfl rfl rfl rfl rfl ct27 ?_
  refine q_aast dX11_init_210 rfl (by decide) (by decide) rfl ?_
  refine q_aload_n dX11_init_211 rfl rfl ?_
  refine q_getR (ci := 11) (k := 7) (r := 144) dX11_init_212 rfl (by decide) rfl tw356 (by decide) rfl ((q_up_c (by decide)).trans (((ct27r_c (by decide))).trans ((q_zc (by decide)).trans ((q_up_c (by decide)).trans (((ct26r_c (by decide))).trans ((q_zc (by decide)).trans ((q_up_i (by decide)).trans ((q_zc (by decide)).trans ((q_up_i (by decide)).trans ((q_zc (by decide)).trans ((q_up_i (by decide)).trans (((ct25r_c (by decide))).trans ((q_zc (by decide)).trans ((q_up_i (by decide)).trans (((ct24r_c (by decide))).trans ((q_zc (by decide)).trans ((q_up_i (by decide)).trans (((ct23r_c (by decide))).trans ((q_zc (by decide)).trans ((q_up_i (by decide)).trans (((ct22r_c (by decide))).trans ((q_zc (by decide)).trans ((q_up_i (by decide)).trans (((ct21r_c (by decide))).trans ((q_zc (by decide)).trans ((q_up_i (by decide)).trans (((ct20r_c (by decide))).trans ((q_zc (by decide)).trans q_up_s)))))))))))))))))))))))))))) (by decide) ?_
  refine q_iload_n dX11_init_215 rfl rfl ?_
  refine qx_iconst dX11_init_216 rfl rfl ?_
  refine q_iast dX11_init_217 rfl (by decide) (by decide) ?_
  refine qx_iinc (L' := [(2, 0), (0, 2)]) dX11_init_218 rfl rfl rfl (q_inb_ok rfl) rfl ?_
  refine q_goto (tgt := 193) dX11_init_221 (by decide) ?_
  refine q_iload_n dX11_init_193 rfl rfl ?_
  refine qx_iconst dX11_init_194 rfl rfl ?_
  refine qx_icmp_ge (tgt := 224) dX11_init_195 (by decide) (fun _ => ?_) (fun z => absurd z (by decide))
  exact q_vret dX11_init_224 rfl
theorem ct1r_c {rf : qm} {c i : Int} (h : c < 0 ∧ 0 ≤ c) : ct1r rf c i = rf c i := by
  exact ((q_up_c (by omega)).trans ((ct27r_c (by omega)).trans ((q_zc (by omega)).trans ((q_up_c (by omega)).trans ((ct26r_c (by omega)).trans ((q_zc (by omega)).trans ((q_up_c (by omega)).trans ((q_zc (by omega)).trans ((q_up_c (by omega)).trans ((q_zc (by omega)).trans ((q_up_c (by omega)).trans ((ct25r_c (by omega)).trans ((q_zc (by omega)).trans ((q_up_c (by omega)).trans ((ct24r_c (by omega)).trans ((q_zc (by omega)).trans ((q_up_c (by omega)).trans ((ct23r_c (by omega)).trans ((q_zc (by omega)).trans ((q_up_c (by omega)).trans ((ct22r_c (by omega)).trans ((q_zc (by omega)).trans ((q_up_c (by omega)).trans ((ct21r_c (by omega)).trans ((q_zc (by omega)).trans ((q_up_c (by omega)).trans ((ct20r_c (by omega)).trans ((q_zc (by omega)).trans ((q_up_c (by omega)).trans ((q_zc (by omega)).trans ((q_up_c (by omega)).trans ((q_zc (by omega)).trans ((q_up_c (by omega)).trans ((ct7r_c (by omega)).trans ((q_zc (by omega)).trans ((q_up_c (by omega)).trans ((ct6r_c (by omega)).trans ((q_zc (by omega)).trans ((q_up_c (by omega)).trans ((ct5r_c (by omega)).trans ((q_zc (by omega)).trans ((q_up_c (by omega)).trans ((ct4r_c (by omega)).trans ((q_zc (by omega)).trans ((q_up_c (by omega)).trans ((ct3r_c (by omega)).trans ((q_zc (by omega)).trans ((q_up_c (by omega)).trans ((ct2r_c (by omega)).trans (q_zc (by omega)))))))))))))))))))))))))))))))))))))))))))))))))))
theorem dX12_init_0 : decode cX12_init 0 = .ok (.aload_n 0, 1) := by decide +kernel
theorem dX12_init_1 : decode cX12_init 1 = .ok (.invokespecial 3, 3) := by decide +kernel
theorem dX12_init_4 : decode cX12_init 4 = .ok (.aload_n 0, 1) := by decide +kernel
theorem dX12_init_5 : decode cX12_init 5 = .ok (.bipush 9, 2) := by decide +kernel
theorem dX12_init_7 : decode cX12_init 7 = .ok (.newarray .int, 2) := by decide +kernel
theorem dX12_init_9 : decode cX12_init 9 = .ok (.putfield 9, 3) := by decide +kernel
theorem dX12_init_12 : decode cX12_init 12 = .ok (.aload_n 0, 1) := by decide +kernel
theorem dX12_init_13 : decode cX12_init 13 = .ok (.bipush 9, 2) := by decide +kernel
theorem dX12_init_15 : decode cX12_init 15 = .ok (.newarray .int, 2) := by decide +kernel
theorem dX12_init_17 : decode cX12_init 17 = .ok (.putfield 13, 3) := by decide +kernel
theorem dX12_init_20 : decode cX12_init 20 = .ok (.aload_n 0, 1) := by decide +kernel
theorem dX12_init_21 : decode cX12_init 21 = .ok (.bipush 9, 2) := by decide +kernel
theorem dX12_init_23 : decode cX12_init 23 = .ok (.newarray .int, 2) := by decide +kernel
theorem dX12_init_25 : decode cX12_init 25 = .ok (.putfield 16, 3) := by decide +kernel
theorem dX12_init_28 : decode cX12_init 28 = .ok (.aload_n 0, 1) := by decide +kernel
theorem dX12_init_29 : decode cX12_init 29 = .ok (.bipush 9, 2) := by decide +kernel
theorem dX12_init_31 : decode cX12_init 31 = .ok (.newarray .int, 2) := by decide +kernel
theorem dX12_init_33 : decode cX12_init 33 = .ok (.putfield 19, 3) := by decide +kernel
theorem dX12_init_36 : decode cX12_init 36 = .ok (.aload_n 0, 1) := by decide +kernel
theorem dX12_init_37 : decode cX12_init 37 = .ok (.bipush 9, 2) := by decide +kernel
theorem dX12_init_39 : decode cX12_init 39 = .ok (.newarray .int, 2) := by decide +kernel
theorem dX12_init_41 : decode cX12_init 41 = .ok (.putfield 22, 3) := by decide +kernel
theorem dX12_init_44 : decode cX12_init 44 = .ok (.aload_n 0, 1) := by decide +kernel
theorem dX12_init_45 : decode cX12_init 45 = .ok (.bipush 9, 2) := by decide +kernel
theorem dX12_init_47 : decode cX12_init 47 = .ok (.newarray .int, 2) := by decide +kernel
theorem dX12_init_49 : decode cX12_init 49 = .ok (.putfield 25, 3) := by decide +kernel
theorem dX12_init_52 : decode cX12_init 52 = .ok (.aload_n 0, 1) := by decide +kernel
theorem dX12_init_53 : decode cX12_init 53 = .ok (.bipush 9, 2) := by decide +kernel
theorem dX12_init_55 : decode cX12_init 55 = .ok (.newarray .int, 2) := by decide +kernel
theorem dX12_init_57 : decode cX12_init 57 = .ok (.putfield 28, 3) := by decide +kernel
theorem dX12_init_60 : decode cX12_init 60 = .ok (.aload_n 0, 1) := by decide +kernel
theorem dX12_init_61 : decode cX12_init 61 = .ok (.sipush 540, 3) := by decide +kernel
theorem dX12_init_64 : decode cX12_init 64 = .ok (.newarray .int, 2) := by decide +kernel
theorem dX12_init_66 : decode cX12_init 66 = .ok (.putfield 31, 3) := by decide +kernel
theorem dX12_init_69 : decode cX12_init 69 = .ok (.aload_n 0, 1) := by decide +kernel
theorem dX12_init_70 : decode cX12_init 70 = .ok (.bipush 36, 2) := by decide +kernel
theorem dX12_init_72 : decode cX12_init 72 = .ok (.newarray .int, 2) := by decide +kernel
theorem dX12_init_74 : decode cX12_init 74 = .ok (.putfield 34, 3) := by decide +kernel
theorem dX12_init_77 : decode cX12_init 77 = .ok (.aload_n 0, 1) := by decide +kernel
theorem dX12_init_78 : decode cX12_init 78 = .ok (.iconst (-1), 1) := by decide +kernel
theorem dX12_init_79 : decode cX12_init 79 = .ok (.putfield 37, 3) := by decide +kernel
theorem dX12_init_82 : decode cX12_init 82 = .ok (.aload_n 0, 1) := by decide +kernel
theorem dX12_init_83 : decode cX12_init 83 = .ok (.bipush 80, 2) := by decide +kernel
theorem dX12_init_85 : decode cX12_init 85 = .ok (.newarray .byte, 2) := by decide +kernel
theorem dX12_init_87 : decode cX12_init 87 = .ok (.putfield 41, 3) := by decide +kernel
theorem dX12_init_90 : decode cX12_init 90 = .ok (.aload_n 0, 1) := by decide +kernel
theorem dX12_init_91 : decode cX12_init 91 = .ok (.bipush 16, 2) := by decide +kernel
theorem dX12_init_93 : decode cX12_init 93 = .ok (.newarray .int, 2) := by decide +kernel
theorem dX12_init_95 : decode cX12_init 95 = .ok (.putfield 45, 3) := by decide +kernel
theorem dX12_init_98 : decode cX12_init 98 = .ok (.aload_n 0, 1) := by decide +kernel
theorem dX12_init_99 : decode cX12_init 99 = .ok (.sipush 240, 3) := by decide +kernel
theorem dX12_init_102 : decode cX12_init 102 = .ok (.newarray .int, 2) := by decide +kernel
theorem dX12_init_104 : decode cX12_init 104 = .ok (.putfield 48, 3) := by decide +kernel
theorem dX12_init_107 : decode cX12_init 107 = .ok (.aload_n 0, 1) := by decide +kernel
theorem dX12_init_108 : decode cX12_init 108 = .ok (.bipush 40, 2) := by decide +kernel
theorem dX12_init_110 : decode cX12_init 110 = .ok (.newarray .byte, 2) := by decide +kernel
theorem dX12_init_112 : decode cX12_init 112 = .ok (.putfield 51, 3) := by decide +kernel
theorem dX12_init_115 : decode cX12_init 115 = .ok (.aload_n 0, 1) := by decide +kernel
theorem dX12_init_116 : decode cX12_init 116 = .ok (.iconst (-1), 1) := by decide +kernel
theorem dX12_init_117 : decode cX12_init 117 = .ok (.putfield 54, 3) := by decide +kernel
theorem dX12_init_120 : decode cX12_init 120 = .ok (.aload_n 0, 1) := by decide +kernel
theorem dX12_init_121 : decode cX12_init 121 = .ok (.bipush 9, 2) := by decide +kernel
theorem dX12_init_123 : decode cX12_init 123 = .ok (.newarray .int, 2) := by decide +kernel
theorem dX12_init_125 : decode cX12_init 125 = .ok (.putfield 57, 3) := by decide +kernel
theorem dX12_init_128 : decode cX12_init 128 = .ok (.aload_n 0, 1) := by decide +kernel
theorem dX12_init_129 : decode cX12_init 129 = .ok (.bipush 81, 2) := by decide +kernel
theorem dX12_init_131 : decode cX12_init 131 = .ok (.newarray .int, 2) := by decide +kernel
theorem dX12_init_133 : decode cX12_init 133 = .ok (.putfield 60, 3) := by decide +kernel
theorem dX12_init_136 : decode cX12_init 136 = .ok (.aload_n 0, 1) := by decide +kernel
theorem dX12_init_137 : decode cX12_init 137 = .ok (.sipush 7164, 3) := by decide +kernel
theorem dX12_init_140 : decode cX12_init 140 = .ok (.newarray .int, 2) := by decide +kernel
theorem dX12_init_142 : decode cX12_init 142 = .ok (.putfield 63, 3) := by decide +kernel
theorem dX12_init_145 : decode cX12_init 145 = .ok (.aload_n 0, 1) := by decide +kernel
theorem dX12_init_146 : decode cX12_init 146 = .ok (.sipush 597, 3) := by decide +kernel
theorem dX12_init_149 : decode cX12_init 149 = .ok (.newarray .int, 2) := by decide +kernel
theorem dX12_init_151 : decode cX12_init 151 = .ok (.putfield 66, 3) := by decide +kernel
theorem dX12_init_154 : decode cX12_init 154 = .ok (.aload_n 0, 1) := by decide +kernel
theorem dX12_init_155 : decode cX12_init 155 = .ok (.sipush 320, 3) := by decide +kernel
theorem dX12_init_158 : decode cX12_init 158 = .ok (.newarray .int, 2) := by decide +kernel
theorem dX12_init_160 : decode cX12_init 160 = .ok (.putfield 69, 3) := by decide +kernel
theorem dX12_init_163 : decode cX12_init 163 = .ok (.aload_n 0, 1) := by decide +kernel
theorem dX12_init_164 : decode cX12_init 164 = .ok (.bipush 9, 2) := by decide +kernel
theorem dX12_init_166 : decode cX12_init 166 = .ok (.newarray .int, 2) := by decide +kernel
theorem dX12_init_168 : decode cX12_init 168 = .ok (.putfield 72, 3) := by decide +kernel
theorem dX12_init_171 : decode cX12_init 171 = .ok (.aload_n 0, 1) := by decide +kernel
theorem dX12_init_172 : decode cX12_init 172 = .ok (.bipush 9, 2) := by decide +kernel
theorem dX12_init_174 : decode cX12_init 174 = .ok (.newarray .int, 2) := by decide +kernel
theorem dX12_init_176 : decode cX12_init 176 = .ok (.putfield 75, 3) := by decide +kernel
theorem dX12_init_179 : decode cX12_init 179 = .ok (.aload_n 0, 1) := by decide +kernel
theorem dX12_init_180 : decode cX12_init 180 = .ok (.bipush 9, 2) := by decide +kernel
theorem dX12_init_182 : decode cX12_init 182 = .ok (.newarray .int, 2) := by decide +kernel
theorem dX12_init_184 : decode cX12_init 184 = .ok (.putfield 78, 3) := by decide +kernel
theorem dX12_init_187 : decode cX12_init 187 = .ok (.aload_n 0, 1) := by decide +kernel
theorem dX12_init_188 : decode cX12_init 188 = .ok (.bipush 9, 2) := by decide +kernel
theorem dX12_init_190 : decode cX12_init 190 = .ok (.newarray .int, 2) := by decide +kernel
theorem dX12_init_192 : decode cX12_init 192 = .ok (.putfield 81, 3) := by decide +kernel
theorem dX12_init_195 : decode cX12_init 195 = .ok (.aload_n 0, 1) := by decide +kernel
theorem dX12_init_196 : decode cX12_init 196 = .ok (.ldc 84, 2) := by decide +kernel
theorem dX12_init_198 : decode cX12_init 198 = .ok (.newarray .int, 2) := by decide +kernel
theorem dX12_init_200 : decode cX12_init 200 = .ok (.putfield 85, 3) := by decide +kernel
theorem dX12_init_203 : decode cX12_init 203 = .ok (.aload_n 0, 1) := by decide +kernel
theorem dX12_init_204 : decode cX12_init 204 = .ok (.sipush 3000, 3) := by decide +kernel
theorem dX12_init_207 : decode cX12_init 207 = .ok (.newarray .int, 2) := by decide +kernel
theorem dX12_init_209 : decode cX12_init 209 = .ok (.putfield 88, 3) := by decide +kernel
theorem dX12_init_212 : decode cX12_init 212 = .ok (.aload_n 0, 1) := by decide +kernel
theorem dX12_init_213 : decode cX12_init 213 = .ok (.sipush 3000, 3) := by decide +kernel
theorem dX12_init_216 : decode cX12_init 216 = .ok (.newarray .int, 2) := by decide +kernel
theorem dX12_init_218 : decode cX12_init 218 = .ok (.putfield 91, 3) := by decide +kernel
theorem dX12_init_221 : decode cX12_init 221 = .ok (.aload_n 0, 1) := by decide +kernel
theorem dX12_init_222 : decode cX12_init 222 = .ok (.sipush 3000, 3) := by decide +kernel
theorem dX12_init_225 : decode cX12_init 225 = .ok (.newarray .int, 2) := by decide +kernel
theorem dX12_init_227 : decode cX12_init 227 = .ok (.putfield 94, 3) := by decide +kernel
theorem dX12_init_230 : decode cX12_init 230 = .ok (.aload_n 0, 1) := by decide +kernel
theorem dX12_init_231 : decode cX12_init 231 = .ok (.sipush 8192, 3) := by decide +kernel
theorem dX12_init_234 : decode cX12_init 234 = .ok (.newarray .int, 2) := by decide +kernel
theorem dX12_init_236 : decode cX12_init 236 = .ok (.putfield 97, 3) := by decide +kernel
theorem dX12_init_239 : decode cX12_init 239 = .ok (.aload_n 0, 1) := by decide +kernel
theorem dX12_init_240 : decode cX12_init 240 = .ok (.bipush 36, 2) := by decide +kernel
theorem dX12_init_242 : decode cX12_init 242 = .ok (.newarray .int, 2) := by decide +kernel
theorem dX12_init_244 : decode cX12_init 244 = .ok (.putfield 100, 3) := by decide +kernel
theorem dX12_init_247 : decode cX12_init 247 = .ok (.aload_n 0, 1) := by decide +kernel
theorem dX12_init_248 : decode cX12_init 248 = .ok (.sipush 3000, 3) := by decide +kernel
theorem dX12_init_251 : decode cX12_init 251 = .ok (.newarray .int, 2) := by decide +kernel
theorem dX12_init_253 : decode cX12_init 253 = .ok (.putfield 103, 3) := by decide +kernel
theorem dX12_init_256 : decode cX12_init 256 = .ok (.aload_n 0, 1) := by decide +kernel
theorem dX12_init_257 : decode cX12_init 257 = .ok (.bipush 7, 2) := by decide +kernel
theorem dX12_init_259 : decode cX12_init 259 = .ok (.newarray .int, 2) := by decide +kernel
theorem dX12_init_261 : decode cX12_init 261 = .ok (.putfield 106, 3) := by decide +kernel
theorem dX12_init_264 : decode cX12_init 264 = .ok (.aload_n 0, 1) := by decide +kernel
theorem dX12_init_265 : decode cX12_init 265 = .ok (.bipush 7, 2) := by decide +kernel
theorem dX12_init_267 : decode cX12_init 267 = .ok (.newarray .int, 2) := by decide +kernel
theorem dX12_init_269 : decode cX12_init 269 = .ok (.putfield 109, 3) := by decide +kernel
theorem dX12_init_272 : decode cX12_init 272 = .ok (.aload_n 0, 1) := by decide +kernel
theorem dX12_init_273 : decode cX12_init 273 = .ok (.bipush 30, 2) := by decide +kernel
theorem dX12_init_275 : decode cX12_init 275 = .ok (.newarray .int, 2) := by decide +kernel
theorem dX12_init_277 : decode cX12_init 277 = .ok (.putfield 112, 3) := by decide +kernel
theorem dX12_init_280 : decode cX12_init 280 = .ok (.aload_n 0, 1) := by decide +kernel
theorem dX12_init_281 : decode cX12_init 281 = .ok (.bipush 90, 2) := by decide +kernel
theorem dX12_init_283 : decode cX12_init 283 = .ok (.newarray .int, 2) := by decide +kernel
theorem dX12_init_285 : decode cX12_init 285 = .ok (.putfield 115, 3) := by decide +kernel
theorem dX12_init_288 : decode cX12_init 288 = .ok (.aload_n 0, 1) := by decide +kernel
theorem dX12_init_289 : decode cX12_init 289 = .ok (.sipush 1230, 3) := by decide +kernel
theorem dX12_init_292 : decode cX12_init 292 = .ok (.newarray .int, 2) := by decide +kernel
theorem dX12_init_294 : decode cX12_init 294 = .ok (.putfield 118, 3) := by decide +kernel
theorem dX12_init_297 : decode cX12_init 297 = .ok (.aload_n 0, 1) := by decide +kernel
theorem dX12_init_298 : decode cX12_init 298 = .ok (.iconst 2, 1) := by decide +kernel
theorem dX12_init_299 : decode cX12_init 299 = .ok (.newarray .boolean, 2) := by decide +kernel
theorem dX12_init_301 : decode cX12_init 301 = .ok (.putfield 121, 3) := by decide +kernel
theorem dX12_init_304 : decode cX12_init 304 = .ok (.aload_n 0, 1) := by decide +kernel
theorem dX12_init_305 : decode cX12_init 305 = .ok (.iconst 2, 1) := by decide +kernel
theorem dX12_init_306 : decode cX12_init 306 = .ok (.newarray .int, 2) := by decide +kernel
theorem dX12_init_308 : decode cX12_init 308 = .ok (.putfield 125, 3) := by decide +kernel
theorem dX12_init_311 : decode cX12_init 311 = .ok (.return_, 1) := by decide +kernel
def ct28r (rf : qm) : qm := (q_up (q_z (q_up (q_z (q_up (q_z (q_up (q_z (q_up (q_z (q_up (q_z (q_up (q_z (q_up (q_z (q_up (q_z (q_up (q_z (q_up (q_z (q_up (q_z (q_up (q_z (q_up (q_z (q_up (q_z (q_up (q_z (q_up (q_z (q_up (q_z (q_up (q_z (q_up (q_z (q_up (q_z (q_up (q_z (q_up (q_z (q_up (q_z (q_up (q_z (q_up (q_z (q_up (q_z (q_up (q_z (q_up (q_z (q_up (q_z (q_up (q_z (q_up (q_z (q_up (q_z (q_up (q_z (q_up (q_z (q_up (q_z rf 189 (-1)) 188 1 189) 190 (-1)) 188 2 190) 191 (-1)) 188 3 191) 192 (-1)) 188 4 192) 193 (-1)) 188 5 193) 194 (-1)) 188 6 194) 195 (-1)) 188 7 195) 196 (-1)) 188 8 196) 197 (-1)) 188 9 197) 198 (-1)) 188 13 198) 199 (-1)) 188 15 199) 200 (-1)) 188 23 200) 201 (-1)) 188 24 201) 202 (-1)) 188 27 202) 203 (-1)) 188 28 203) 204 (-1)) 188 29 204) 205 (-1)) 188 31 205) 206 (-1)) 188 32 206) 207 (-1)) 188 33 207) 208 (-1)) 188 34 208) 209 (-1)) 188 35 209) 210 (-1)) 188 37 210) 211 (-1)) 188 38 211) 212 (-1)) 188 39 212) 213 (-1)) 188 40 213) 214 (-1)) 188 41 214) 215 (-1)) 188 43 215) 216 (-1)) 188 44 216) 217 (-1)) 188 45 217) 218 (-1)) 188 46 218) 219 (-1)) 188 47 219) 220 (-1)) 188 48 220) 221 (-1)) 188 50 221) 222 (-1)) 188 52 222) 223 (-1)) 188 53 223) 224 (-1)) 188 54 224)
def ct28m (mem : qm) : qm := (q_z (q_z (q_z (q_z (q_z (q_z (q_z (q_z (q_z (q_z (q_z (q_z (q_z (q_z (q_z (q_z (q_z (q_z (q_z (q_z (q_z (q_z (q_z (q_up (q_z (q_z (q_z (q_z (q_up (q_z (q_z (q_z (q_z (q_z (q_z (q_z (q_z (q_z mem 189 0) 190 0) 191 0) 192 0) 193 0) 194 0) 195 0) 196 0) 197 0) 188 12 (-1)) 198 0) 199 0) 200 0) 201 0) 188 26 (-1)) 202 0) 203 0) 204 0) 205 0) 206 0) 207 0) 208 0) 209 0) 210 0) 211 0) 212 0) 213 0) 214 0) 215 0) 216 0) 217 0) 218 0) 219 0) 220 0) 221 0) 222 0) 223 0) 224 0)
set_option maxRecDepth 20000 in
theorem ct28 {rf mem : qm} : q_Ev yX12_init cX12_init 1 none 1 36 165818 [(2, 188)] ((q_sh0.take 189), rf, mem) (fun _ σ => σ = ((q_sh0.take 225), ct28r rf, ct28m mem)) := by
  refine q_enter (by decide +kernel) (by simp) (by decide) ?_
  show q_At yX12_init cX12_init 1 none 1 36 165818 _ 0 [(2, 188)] [] ((q_sh0.take 189), rf, mem)
  refine q_aload_n dX12_init_0 rfl rfl ?_
  refine q_objInit dX12_init_1 tw1181 tw28 tw29 (by decide) (Nat.le_of_ble_eq_true rfl) ?_
  refine q_aload_n dX12_init_4 rfl rfl ?_
  refine qx_bipush dX12_init_5 rfl rfl ?_
  refine qx_newI (kc := 35) (ks := 165809) (nI := 189) (sh' := (q_sh0.take 190)) dX12_init_7 tw63 rfl rfl rfl rfl rfl rfl rfl ?_
  refine q_putRF (ci := 12) (k := 1) (ty := tyX12 1) dX12_init_9 rfl (by decide) rfl tw1184 rfl rfl rfl (by decide) rfl (fun _ => ⟨rfl, rfl⟩) rfl ?_
  refine q_aload_n dX12_init_12 rfl rfl ?_
  refine qx_bipush dX12_init_13 rfl rfl ?_
  refine qx_newI (kc := 34) (ks := 165800) (nI := 190) (sh' := (q_sh0.take 191)) dX12_init_15 tw63 rfl rfl rfl rfl rfl rfl rfl ?_
  refine q_putRF (ci := 12) (k := 2) (ty := tyX12 2) dX12_init_17 rfl (by decide) rfl tw1185 rfl rfl rfl (by decide) rfl (fun _ => ⟨rfl, rfl⟩) rfl ?_
  refine q_aload_n dX12_init_20 rfl rfl ?_
  refine qx_bipush dX12_init_21 rfl rfl ?_
  refine qx_newI (kc := 33) (ks := 165791) (nI := 191) (sh' := (q_sh0.take 192)) dX12_init_23 tw63 rfl rfl rfl rfl rfl rfl rfl ?_
  refine q_putRF (ci := 12) (k := 3) (ty := tyX12 3) dX12_init_25 rfl (by decide) rfl tw1186 rfl rfl rfl (by decide) rfl (fun _ => ⟨rfl, rfl⟩) rfl ?_
  refine q_aload_n dX12_init_28 rfl rfl ?_
  refine qx_bipush dX12_init_29 rfl rfl ?_
  refine qx_newI (kc := 32) (ks := 165782) (nI := 192) (sh' := (q_sh0.take 193)) dX12_init_31 tw63 rfl rfl rfl rfl rfl rfl rfl ?_
  refine q_putRF (ci := 12) (k := 4) (ty := tyX12 4) dX12_init_33 rfl (by decide) rfl tw1187 rfl rfl rfl (by decide) rfl (fun _ => ⟨rfl, rfl⟩) rfl ?_
  refine q_aload_n dX12_init_36 rfl rfl ?_
  refine qx_bipush dX12_init_37 rfl rfl ?_
  refine qx_newI (kc := 31) (ks := 165773) (nI := 193) (sh' := (q_sh0.take 194)) dX12_init_39 tw63 rfl rfl rfl rfl rfl rfl rfl ?_
  refine q_putRF (ci := 12) (k := 5) (ty := tyX12 5) dX12_init_41 rfl (by decide) rfl tw1188 rfl rfl rfl (by decide) rfl (fun _ => ⟨rfl, rfl⟩) rfl ?_
  refine q_aload_n dX12_init_44 rfl rfl ?_
  refine qx_bipush dX12_init_45 rfl rfl ?_
  refine qx_newI (kc := 30) (ks := 165764) (nI := 194) (sh' := (q_sh0.take 195)) dX12_init_47 tw63 rfl rfl rfl rfl rfl rfl rfl ?_
  refine q_putRF (ci := 12) (k := 6) (ty := tyX12 6) dX12_init_49 rfl (by decide) rfl tw1189 rfl rfl rfl (by decide) rfl (fun _ => ⟨rfl, rfl⟩) rfl ?_
  refine q_aload_n dX12_init_52 rfl rfl ?_
  refine qx_bipush dX12_init_53 rfl rfl ?_
  refine qx_newI (kc := 29) (ks := 165755) (nI := 195) (sh' := (q_sh0.take 196)) dX12_init_55 tw63 rfl rfl rfl rfl rfl rfl rfl ?_
  refine q_putRF (ci := 12) (k := 7) (ty := tyX12 7) dX12_init_57 rfl (by decide) rfl tw1190 rfl rfl rfl (by decide) rfl (fun _ => ⟨rfl, rfl⟩) rfl ?_
  refine q_aload_n dX12_init_60 rfl rfl ?_
  refine qx_sipush dX12_init_61 rfl rfl ?_
  refine qx_newI (kc := 28) (ks := 165215) (nI := 196) (sh' := (q_sh0.take 197)) dX12_init_64 tw63 rfl rfl rfl rfl rfl rfl rfl ?_
  refine q_putRF (ci := 12) (k := 8) (ty := tyX12 8) dX12_init_66 rfl (by decide) rfl tw1191 rfl rfl rfl (by decide) rfl (fun _ => ⟨rfl, rfl⟩) rfl ?_
  refine q_aload_n dX12_init_69 rfl rfl ?_
  refine qx_bipush dX12_init_70 rfl rfl ?_
  refine qx_newI (kc := 27) (ks := 165179) (nI := 197) (sh' := (q_sh0.take 198)) dX12_init_72 tw63 rfl rfl rfl rfl rfl rfl rfl ?_
  refine q_putRF (ci := 12) (k := 9) (ty := tyX12 9) dX12_init_74 rfl (by decide) rfl tw1192 rfl rfl rfl (by decide) rfl (fun _ => ⟨rfl, rfl⟩) rfl ?_
  refine q_aload_n dX12_init_77 rfl rfl ?_
  refine qx_iconst dX12_init_78 rfl rfl ?_
  refine q_putI (ci := 12) (k := 12) (ty := .int) dX12_init_79 rfl (by decide) rfl tw1195 rfl rfl rfl (fun _ => ⟨rfl, rfl⟩) rfl ?_
  refine q_aload_n dX12_init_82 rfl rfl ?_
  refine qx_bipush dX12_init_83 rfl rfl ?_
  refine qx_newB (kc := 26) (ks := 165099) (nI := 198) (sh' := (q_sh0.take 199)) dX12_init_85 tw1166 rfl rfl rfl rfl rfl rfl rfl ?_
  refine q_putRF (ci := 12) (k := 13) (ty := tyX12 13) dX12_init_87 rfl (by decide) rfl tw1196 rfl rfl rfl (by decide) rfl (fun _ => ⟨rfl, rfl⟩) rfl ?_
  refine q_aload_n dX12_init_90 rfl rfl ?_
  refine qx_bipush dX12_init_91 rfl rfl ?_
  refine qx_newI (kc := 25) (ks := 165083) (nI := 199) (sh' := (q_sh0.take 200)) dX12_init_93 tw63 rfl rfl rfl rfl rfl rfl rfl ?_
  refine q_putRF (ci := 12) (k := 15) (ty := tyX12 15) dX12_init_95 rfl (by decide) rfl tw1198 rfl rfl rfl (by decide) rfl (fun _ => ⟨rfl, rfl⟩) rfl ?_
  refine q_aload_n dX12_init_98 rfl rfl ?_
  refine qx_sipush dX12_init_99 rfl rfl ?_
  refine qx_newI (kc := 24) (ks := 164843) (nI := 200) (sh' := (q_sh0.take 201)) dX12_init_102 tw63 rfl rfl rfl rfl rfl rfl rfl ?_
  refine q_putRF (ci := 12) (k := 23) (ty := tyX12 23) dX12_init_104 rfl (by decide) rfl tw1206 rfl rfl rfl (by decide) rfl (fun _ => ⟨rfl, rfl⟩) rfl ?_
  refine q_aload_n dX12_init_107 rfl rfl ?_
  refine qx_bipush dX12_init_108 rfl rfl ?_
  refine qx_newB (kc := 23) (ks := 164803) (nI := 201) (sh' := (q_sh0.take 202)) dX12_init_110 tw1166 rfl rfl rfl rfl rfl rfl rfl ?_
  refine q_putRF (ci := 12) (k := 24) (ty := tyX12 24) dX12_init_112 rfl (by decide) rfl tw1207 rfl rfl rfl (by decide) rfl (fun _ => ⟨rfl, rfl⟩) rfl ?_
  refine q_aload_n dX12_init_115 rfl rfl ?_
  refine qx_iconst dX12_init_116 rfl rfl ?_
  refine q_putI (ci := 12) (k := 26) (ty := .int) dX12_init_117 rfl (by decide) rfl tw1209 rfl rfl rfl (fun _ => ⟨rfl, rfl⟩) rfl ?_
  refine q_aload_n dX12_init_120 rfl rfl ?_
  refine qx_bipush dX12_init_121 rfl rfl ?_
  refine qx_newI (kc := 22) (ks := 164794) (nI := 202) (sh' := (q_sh0.take 203)) dX12_init_123 tw63 rfl rfl rfl rfl rfl rfl rfl ?_
  refine q_putRF (ci := 12) (k := 27) (ty := tyX12 27) dX12_init_125 rfl (by decide) rfl tw1210 rfl rfl rfl (by decide) rfl (fun _ => ⟨rfl, rfl⟩) rfl ?_
  refine q_aload_n dX12_init_128 rfl rfl ?_
  refine qx_bipush dX12_init_129 rfl rfl ?_
  refine qx_newI (kc := 21) (ks := 164713) (nI := 203) (sh' := (q_sh0.take 204)) dX12_init_131 tw63 rfl rfl rfl rfl rfl rfl rfl ?_
  refine q_putRF (ci := 12) (k := 28) (ty := tyX12 28) dX12_init_133 rfl (by decide) rfl tw1211 rfl rfl rfl (by decide) rfl (fun _ => ⟨rfl, rfl⟩) rfl ?_
  refine q_aload_n dX12_init_136 rfl rfl ?_
  refine qx_sipush dX12_init_137 rfl rfl ?_
  refine qx_newI (kc := 20) (ks := 157549) (nI := 204) (sh' := (q_sh0.take 205)) dX12_init_140 tw63 rfl rfl rfl rfl rfl rfl rfl ?_
  refine q_putRF (ci := 12) (k := 29) (ty := tyX12 29) dX12_init_142 rfl (by decide) rfl tw1212 rfl rfl rfl (by decide) rfl (fun _ => ⟨rfl, rfl⟩) rfl ?_
  refine q_aload_n dX12_init_145 rfl rfl ?_
  refine qx_sipush dX12_init_146 rfl rfl ?_
  refine qx_newI (kc := 19) (ks := 156952) (nI := 205) (sh' := (q_sh0.take 206)) dX12_init_149 tw63 rfl rfl rfl rfl rfl rfl rfl ?_
  refine q_putRF (ci := 12) (k := 31) (ty := tyX12 31) dX12_init_151 rfl (by decide) rfl tw1214 rfl rfl rfl (by decide) rfl (fun _ => ⟨rfl, rfl⟩) rfl ?_
  refine q_aload_n dX12_init_154 rfl rfl ?_
  refine qx_sipush dX12_init_155 rfl rfl ?_
  refine qx_newI (kc := 18) (ks := 156632) (nI := 206) (sh' := (q_sh0.take 207)) dX12_init_158 tw63 rfl rfl rfl rfl rfl rfl rfl ?_
  refine q_putRF (ci := 12) (k := 32) (ty := tyX12 32) dX12_init_160 rfl (by decide) rfl tw1215 rfl rfl rfl (by decide) rfl (fun _ => ⟨rfl, rfl⟩) rfl ?_
  refine q_aload_n dX12_init_163 rfl rfl ?_
  refine qx_bipush dX12_init_164 rfl rfl ?_
  refine qx_newI (kc := 17) (ks := 156623) (nI := 207) (sh' := (q_sh0.take 208)) dX12_init_166 tw63 rfl rfl rfl rfl rfl rfl rfl ?_
  refine q_putRF (ci := 12) (k := 33) (ty := tyX12 33) dX12_init_168 rfl (by decide) rfl tw1216 rfl rfl rfl (by decide) rfl (fun _ => ⟨rfl, rfl⟩) rfl ?_
  refine q_aload_n dX12_init_171 rfl rfl ?_
  refine qx_bipush dX12_init_172 rfl rfl ?_
  refine qx_newI (kc := 16) (ks := 156614) (nI := 208) (sh' := (q_sh0.take 209)) dX12_init_174 tw63 rfl rfl rfl rfl rfl rfl rfl ?_
  refine q_putRF (ci := 12) (k := 34) (ty := tyX12 34) dX12_init_176 rfl (by decide) rfl tw1217 rfl rfl rfl (by decide) rfl (fun _ => ⟨rfl, rfl⟩) rfl ?_
  refine q_aload_n dX12_init_179 rfl rfl ?_
  refine qx_bipush dX12_init_180 rfl rfl ?_
  refine qx_newI (kc := 15) (ks := 156605) (nI := 209) (sh' := (q_sh0.take 210)) dX12_init_182 tw63 rfl rfl rfl rfl rfl rfl rfl ?_
  refine q_putRF (ci := 12) (k := 35) (ty := tyX12 35) dX12_init_184 rfl (by decide) rfl tw1218 rfl rfl rfl (by decide) rfl (fun _ => ⟨rfl, rfl⟩) rfl ?_
  refine q_aload_n dX12_init_187 rfl rfl ?_
  refine qx_bipush dX12_init_188 rfl rfl ?_
  refine qx_newI (kc := 14) (ks := 156596) (nI := 210) (sh' := (q_sh0.take 211)) dX12_init_190 tw63 rfl rfl rfl rfl rfl rfl rfl ?_
  refine q_putRF (ci := 12) (k := 37) (ty := tyX12 37) dX12_init_192 rfl (by decide) rfl tw1220 rfl rfl rfl (by decide) rfl (fun _ => ⟨rfl, rfl⟩) rfl ?_
  refine q_aload_n dX12_init_195 rfl rfl ?_
  refine q_ldc (v := 135000) dX12_init_196 tw1182 rfl (q_inb_ok rfl) ?_
  refine qx_newI (kc := 13) (ks := 21596) (nI := 211) (sh' := (q_sh0.take 212)) dX12_init_198 tw63 rfl rfl rfl rfl rfl rfl rfl ?_
  refine q_putRF (ci := 12) (k := 38) (ty := tyX12 38) dX12_init_200 rfl (by decide) rfl tw1221 rfl rfl rfl (by decide) rfl (fun _ => ⟨rfl, rfl⟩) rfl ?_
  refine q_aload_n dX12_init_203 rfl rfl ?_
  refine qx_sipush dX12_init_204 rfl rfl ?_
  refine qx_newI (kc := 12) (ks := 18596) (nI := 212) (sh' := (q_sh0.take 213)) dX12_init_207 tw63 rfl rfl rfl rfl rfl rfl rfl ?_
  refine q_putRF (ci := 12) (k := 39) (ty := tyX12 39) dX12_init_209 rfl (by decide) rfl tw1222 rfl rfl rfl (by decide) rfl (fun _ => ⟨rfl, rfl⟩) rfl ?_
  refine q_aload_n dX12_init_212 rfl rfl ?_
  refine qx_sipush dX12_init_213 rfl rfl ?_
  refine qx_newI (kc := 11) (ks := 15596) (nI := 213) (sh' := (q_sh0.take 214)) dX12_init_216 tw63 rfl rfl rfl rfl rfl rfl rfl ?_
  refine q_putRF (ci := 12) (k := 40) (ty := tyX12 40) dX12_init_218 rfl (by decide) rfl tw1223 rfl rfl rfl (by decide) rfl (fun _ => ⟨rfl, rfl⟩) rfl ?_
  refine q_aload_n dX12_init_221 rfl rfl ?_
  refine qx_sipush dX12_init_222 rfl rfl ?_
  refine qx_newI (kc := 10) (ks := 12596) (nI := 214) (sh' := (q_sh0.take 215)) dX12_init_225 tw63 rfl rfl rfl rfl rfl rfl rfl ?_
  refine q_putRF (ci := 12) (k := 41) (ty := tyX12 41) dX12_init_227 rfl (by decide) rfl tw1224 rfl rfl rfl (by decide) rfl (fun _ => ⟨rfl, rfl⟩) rfl ?_
  refine q_aload_n dX12_init_230 rfl rfl ?_
  refine qx_sipush dX12_init_231 rfl rfl ?_
  refine qx_newI (kc := 9) (ks := 4404) (nI := 215) (sh' := (q_sh0.take 216)) dX12_init_234 tw63 rfl rfl rfl rfl rfl rfl rfl ?_
  refine q_putRF (ci := 12) (k := 43) (ty := tyX12 43) dX12_init_236 rfl (by decide) rfl tw1226 rfl rfl rfl (by decide) rfl (fun _ => ⟨rfl, rfl⟩) rfl ?_
  refine q_aload_n dX12_init_239 rfl rfl ?_
  refine qx_bipush dX12_init_240 rfl rfl ?_
  refine qx_newI (kc := 8) (ks := 4368) (nI := 216) (sh' := (q_sh0.take 217)) dX12_init_242 tw63 rfl rfl rfl rfl rfl rfl rfl ?_
  refine q_putRF (ci := 12) (k := 44) (ty := tyX12 44) dX12_init_244 rfl (by decide) rfl tw1227 rfl rfl rfl (by decide) rfl (fun _ => ⟨rfl, rfl⟩) rfl ?_
  refine q_aload_n dX12_init_247 rfl rfl ?_
  refine qx_sipush dX12_init_248 rfl rfl ?_
  refine qx_newI (kc := 7) (ks := 1368) (nI := 217) (sh' := (q_sh0.take 218)) dX12_init_251 tw63 rfl rfl rfl rfl rfl rfl rfl ?_
  refine q_putRF (ci := 12) (k := 45) (ty := tyX12 45) dX12_init_253 rfl (by decide) rfl tw1228 rfl rfl rfl (by decide) rfl (fun _ => ⟨rfl, rfl⟩) rfl ?_
  refine q_aload_n dX12_init_256 rfl rfl ?_
  refine qx_bipush dX12_init_257 rfl rfl ?_
  refine qx_newI (kc := 6) (ks := 1361) (nI := 218) (sh' := (q_sh0.take 219)) dX12_init_259 tw63 rfl rfl rfl rfl rfl rfl rfl ?_
  refine q_putRF (ci := 12) (k := 46) (ty := tyX12 46) dX12_init_261 rfl (by decide) rfl tw1229 rfl rfl rfl (by decide) rfl (fun _ => ⟨rfl, rfl⟩) rfl ?_
  refine q_aload_n dX12_init_264 rfl rfl ?_
  refine qx_bipush dX12_init_265 rfl rfl ?_
  refine qx_newI (kc := 5) (ks := 1354) (nI := 219) (sh' := (q_sh0.take 220)) dX12_init_267 tw63 rfl rfl rfl rfl rfl rfl rfl ?_
  refine q_putRF (ci := 12) (k := 47) (ty := tyX12 47) dX12_init_269 rfl (by decide) rfl tw1230 rfl rfl rfl (by decide) rfl (fun _ => ⟨rfl, rfl⟩) rfl ?_
  refine q_aload_n dX12_init_272 rfl rfl ?_
  refine qx_bipush dX12_init_273 rfl rfl ?_
  refine qx_newI (kc := 4) (ks := 1324) (nI := 220) (sh' := (q_sh0.take 221)) dX12_init_275 tw63 rfl rfl rfl rfl rfl rfl rfl ?_
  refine q_putRF (ci := 12) (k := 48) (ty := tyX12 48) dX12_init_277 rfl (by decide) rfl tw1231 rfl rfl rfl (by decide) rfl (fun _ => ⟨rfl, rfl⟩) rfl ?_
  refine q_aload_n dX12_init_280 rfl rfl ?_
  refine qx_bipush dX12_init_281 rfl rfl ?_
  refine qx_newI (kc := 3) (ks := 1234) (nI := 221) (sh' := (q_sh0.take 222)) dX12_init_283 tw63 rfl rfl rfl rfl rfl rfl rfl ?_
  refine q_putRF (ci := 12) (k := 50) (ty := tyX12 50) dX12_init_285 rfl (by decide) rfl tw1233 rfl rfl rfl (by decide) rfl (fun _ => ⟨rfl, rfl⟩) rfl ?_
  refine q_aload_n dX12_init_288 rfl rfl ?_
  refine qx_sipush dX12_init_289 rfl rfl ?_
  refine qx_newI (kc := 2) (ks := 4) (nI := 222) (sh' := (q_sh0.take 223)) dX12_init_292 tw63 rfl rfl rfl rfl rfl rfl rfl ?_
  refine q_putRF (ci := 12) (k := 52) (ty := tyX12 52) dX12_init_294 rfl (by decide) rfl tw1235 rfl rfl rfl (by decide) rfl (fun _ => ⟨rfl, rfl⟩) rfl ?_
  refine q_aload_n dX12_init_297 rfl rfl ?_
  refine qx_iconst dX12_init_298 rfl rfl ?_
  refine qx_newZ (kc := 1) (ks := 2) (nI := 223) (sh' := (q_sh0.take 224)) dX12_init_299 tw1349 rfl rfl rfl rfl rfl rfl rfl ?_
  refine q_putRF (ci := 12) (k := 53) (ty := tyX12 53) dX12_init_301 rfl (by decide) rfl tw1236 rfl rfl rfl (by decide) rfl (fun _ => ⟨rfl, rfl⟩) rfl ?_
  refine q_aload_n dX12_init_304 rfl rfl ?_
  refine qx_iconst dX12_init_305 rfl rfl ?_
  refine qx_newI (kc := 0) (ks := 0) (nI := 224) (sh' := (q_sh0.take 225)) dX12_init_306 tw63 rfl rfl rfl rfl rfl rfl rfl ?_
  refine q_putRF (ci := 12) (k := 54) (ty := tyX12 54) dX12_init_308 rfl (by decide) rfl tw1237 rfl rfl rfl (by decide) rfl (fun _ => ⟨rfl, rfl⟩) rfl ?_
  exact q_vret dX12_init_311 rfl
theorem ct28r_c {rf : qm} {c i : Int} (h : c < 188 ∧ 0 ≤ c) : ct28r rf c i = rf c i := by
  exact ((q_up_c (by omega)).trans ((q_zc (by omega)).trans ((q_up_c (by omega)).trans ((q_zc (by omega)).trans ((q_up_c (by omega)).trans ((q_zc (by omega)).trans ((q_up_c (by omega)).trans ((q_zc (by omega)).trans ((q_up_c (by omega)).trans ((q_zc (by omega)).trans ((q_up_c (by omega)).trans ((q_zc (by omega)).trans ((q_up_c (by omega)).trans ((q_zc (by omega)).trans ((q_up_c (by omega)).trans ((q_zc (by omega)).trans ((q_up_c (by omega)).trans ((q_zc (by omega)).trans ((q_up_c (by omega)).trans ((q_zc (by omega)).trans ((q_up_c (by omega)).trans ((q_zc (by omega)).trans ((q_up_c (by omega)).trans ((q_zc (by omega)).trans ((q_up_c (by omega)).trans ((q_zc (by omega)).trans ((q_up_c (by omega)).trans ((q_zc (by omega)).trans ((q_up_c (by omega)).trans ((q_zc (by omega)).trans ((q_up_c (by omega)).trans ((q_zc (by omega)).trans ((q_up_c (by omega)).trans ((q_zc (by omega)).trans ((q_up_c (by omega)).trans ((q_zc (by omega)).trans ((q_up_c (by omega)).trans ((q_zc (by omega)).trans ((q_up_c (by omega)).trans ((q_zc (by omega)).trans ((q_up_c (by omega)).trans ((q_zc (by omega)).trans ((q_up_c (by omega)).trans ((q_zc (by omega)).trans ((q_up_c (by omega)).trans ((q_zc (by omega)).trans ((q_up_c (by omega)).trans ((q_zc (by omega)).trans ((q_up_c (by omega)).trans ((q_zc (by omega)).trans ((q_up_c (by omega)).trans ((q_zc (by omega)).trans ((q_up_c (by omega)).trans ((q_zc (by omega)).trans ((q_up_c (by omega)).trans ((q_zc (by omega)).trans ((q_up_c (by omega)).trans ((q_zc (by omega)).trans ((q_up_c (by omega)).trans ((q_zc (by omega)).trans ((q_up_c (by omega)).trans ((q_zc (by omega)).trans ((q_up_c (by omega)).trans ((q_zc (by omega)).trans ((q_up_c (by omega)).trans ((q_zc (by omega)).trans ((q_up_c (by omega)).trans ((q_zc (by omega)).trans ((q_up_c (by omega)).trans ((q_zc (by omega)).trans ((q_up_c (by omega)).trans (q_zc (by omega)))))))))))))))))))))))))))))))))))))))))))))))))))))))))))))))))))))))))
