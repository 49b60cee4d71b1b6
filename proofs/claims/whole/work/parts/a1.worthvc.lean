theorem dX2_valueOf_0 : decode cX2_valueOf 0 = .ok (.iload_n 1, 1) := by decide +kernel
theorem dX2_valueOf_1 : decode cX2_valueOf 1 = .ok (.sipush 1000, 3) := by decide +kernel
theorem dX2_valueOf_4 : decode cX2_valueOf 4 = .ok (.isub, 1) := by decide +kernel
theorem dX2_valueOf_5 : decode cX2_valueOf 5 = .ok (.istore_n 2, 1) := by decide +kernel
theorem dX2_valueOf_6 : decode cX2_valueOf 6 = .ok (.iload_n 2, 1) := by decide +kernel
theorem dX2_valueOf_7 : decode cX2_valueOf 7 = .ok (.ifCond .lt 21, 3) := by decide +kernel
theorem dX2_valueOf_10 : decode cX2_valueOf 10 = .ok (.iload_n 2, 1) := by decide +kernel
theorem dX2_valueOf_11 : decode cX2_valueOf 11 = .ok (.aload_n 0, 1) := by decide +kernel
theorem dX2_valueOf_12 : decode cX2_valueOf 12 = .ok (.getfield 21, 3) := by decide +kernel
theorem dX2_valueOf_15 : decode cX2_valueOf 15 = .ok (.arraylength, 1) := by decide +kernel
theorem dX2_valueOf_16 : decode cX2_valueOf 16 = .ok (.if_icmp .ge 12, 3) := by decide +kernel
theorem dX2_valueOf_19 : decode cX2_valueOf 19 = .ok (.aload_n 0, 1) := by decide +kernel
theorem dX2_valueOf_20 : decode cX2_valueOf 20 = .ok (.getfield 21, 3) := by decide +kernel
theorem dX2_valueOf_23 : decode cX2_valueOf 23 = .ok (.iload_n 2, 1) := by decide +kernel
theorem dX2_valueOf_24 : decode cX2_valueOf 24 = .ok (.iaload, 1) := by decide +kernel
theorem dX2_valueOf_25 : decode cX2_valueOf 25 = .ok (.goto 4, 3) := by decide +kernel
theorem dX2_valueOf_28 : decode cX2_valueOf 28 = .ok (.iload_n 1, 1) := by decide +kernel
theorem dX2_valueOf_29 : decode cX2_valueOf 29 = .ok (.ireturn, 1) := by decide +kernel
theorem bkX2_valueOf_0 {b : Int} {mem : qm} {Q : Int → qm → Prop}
    {v : Int}
    (o1 : q_in32 (v - 1000))
    (l2 : (v - 1000) < 0 → Q v mem)
    (l3 : 0 ≤ (v - 1000) → 10 ≤ (v - 1000) → Q v mem)
    (o4 : 0 ≤ (v - 1000) → (v - 1000) < 10 → (0 ≤ (v - 1000) ∧ (v - 1000) < 10))
    (l5 : 0 ≤ (v - 1000) → (v - 1000) < 10 → Q (mem 153 (v - 1000)) mem) :
    q_At yX2_valueOf cX2_valueOf 3 (some .int) 1 0 0 (qK (q_rb b) Q) 0 [(2, 149), (0, v), (4, 0)] [] (q_sh0, q_rb b, mem) := by
  refine q_iload_n dX2_valueOf_0 rfl rfl ?_
  refine qx_sipush dX2_valueOf_1 rfl rfl ?_
  refine qx_isub dX2_valueOf_4 (o1) ?_
  refine qx_istore_n (L' := [(2, 149), (0, v), (0, (v - 1000))]) dX2_valueOf_5 rfl rfl rfl rfl ?_
  refine q_iload_n dX2_valueOf_6 rfl rfl ?_
  refine qx_if_lt (tgt := 28) dX2_valueOf_7 (by decide) (fun c1 => ?_) (fun c1 => ?_)
  · skip
    refine q_iload_n dX2_valueOf_28 rfl rfl ?_
    exact q_iret dX2_valueOf_29 (qK_i (l2 c1))
  · skip
    refine q_iload_n dX2_valueOf_10 rfl rfl ?_
    refine q_aload_n dX2_valueOf_11 rfl rfl ?_
    refine q_getR (ci := 2) (k := 3) dX2_valueOf_12 rfl (by decide) rfl tw259 (by decide) qs149 qw149_3 (by decide) ?_
    refine q_alen0 dX2_valueOf_15 qs153 (by decide) ?_
    refine qx_icmp_ge (tgt := 28) dX2_valueOf_16 (by decide) (fun c2 => ?_) (fun c2 => ?_)
    · skip
      refine q_iload_n dX2_valueOf_28 rfl rfl ?_
      exact q_iret dX2_valueOf_29 (qK_i (l3 c1 c2))
    · skip
      refine q_aload_n dX2_valueOf_19 rfl rfl ?_
      refine q_getR (ci := 2) (k := 3) dX2_valueOf_20 rfl (by decide) rfl tw259 (by decide) qs149 qw149_3 (by decide) ?_
      refine q_iload_n dX2_valueOf_23 rfl rfl ?_
      refine qx_iald (v := (mem 153 (v - 1000))) dX2_valueOf_24 qs153 (o4 c1 c2) rfl ?_
      refine q_goto (tgt := 29) dX2_valueOf_25 (by decide) ?_
      exact q_iret dX2_valueOf_29 (qK_i (l5 c1 c2))
theorem dX2_joined_0 : decode cX2_joined 0 = .ok (.iload_n 0, 1) := by decide +kernel
theorem dX2_joined_1 : decode cX2_joined 1 = .ok (.lookupswitch 104 #[(42, 100), (43, 92), (45, 96), (60, 59), (61, 81), (62, 70)], 59) := by decide +kernel
theorem dX2_joined_60 : decode cX2_joined 60 = .ok (.iload_n 1, 1) := by decide +kernel
theorem dX2_joined_61 : decode cX2_joined 61 = .ok (.iload_n 2, 1) := by decide +kernel
theorem dX2_joined_62 : decode cX2_joined 62 = .ok (.if_icmp .ge 7, 3) := by decide +kernel
theorem dX2_joined_65 : decode cX2_joined 65 = .ok (.iconst 1, 1) := by decide +kernel
theorem dX2_joined_66 : decode cX2_joined 66 = .ok (.goto 4, 3) := by decide +kernel
theorem dX2_joined_69 : decode cX2_joined 69 = .ok (.iconst 0, 1) := by decide +kernel
theorem dX2_joined_70 : decode cX2_joined 70 = .ok (.ireturn, 1) := by decide +kernel
theorem dX2_joined_71 : decode cX2_joined 71 = .ok (.iload_n 1, 1) := by decide +kernel
theorem dX2_joined_72 : decode cX2_joined 72 = .ok (.iload_n 2, 1) := by decide +kernel
theorem dX2_joined_73 : decode cX2_joined 73 = .ok (.if_icmp .le 7, 3) := by decide +kernel
theorem dX2_joined_76 : decode cX2_joined 76 = .ok (.iconst 1, 1) := by decide +kernel
theorem dX2_joined_77 : decode cX2_joined 77 = .ok (.goto 4, 3) := by decide +kernel
theorem dX2_joined_80 : decode cX2_joined 80 = .ok (.iconst 0, 1) := by decide +kernel
theorem dX2_joined_81 : decode cX2_joined 81 = .ok (.ireturn, 1) := by decide +kernel
theorem dX2_joined_82 : decode cX2_joined 82 = .ok (.iload_n 1, 1) := by decide +kernel
theorem dX2_joined_83 : decode cX2_joined 83 = .ok (.iload_n 2, 1) := by decide +kernel
theorem dX2_joined_84 : decode cX2_joined 84 = .ok (.if_icmp .ne 7, 3) := by decide +kernel
theorem dX2_joined_87 : decode cX2_joined 87 = .ok (.iconst 1, 1) := by decide +kernel
theorem dX2_joined_88 : decode cX2_joined 88 = .ok (.goto 4, 3) := by decide +kernel
theorem dX2_joined_91 : decode cX2_joined 91 = .ok (.iconst 0, 1) := by decide +kernel
theorem dX2_joined_92 : decode cX2_joined 92 = .ok (.ireturn, 1) := by decide +kernel
theorem dX2_joined_93 : decode cX2_joined 93 = .ok (.iload_n 1, 1) := by decide +kernel
theorem dX2_joined_94 : decode cX2_joined 94 = .ok (.iload_n 2, 1) := by decide +kernel
theorem dX2_joined_95 : decode cX2_joined 95 = .ok (.iadd, 1) := by decide +kernel
theorem dX2_joined_96 : decode cX2_joined 96 = .ok (.ireturn, 1) := by decide +kernel
theorem dX2_joined_97 : decode cX2_joined 97 = .ok (.iload_n 1, 1) := by decide +kernel
theorem dX2_joined_98 : decode cX2_joined 98 = .ok (.iload_n 2, 1) := by decide +kernel
theorem dX2_joined_99 : decode cX2_joined 99 = .ok (.isub, 1) := by decide +kernel
theorem dX2_joined_100 : decode cX2_joined 100 = .ok (.ireturn, 1) := by decide +kernel
theorem dX2_joined_101 : decode cX2_joined 101 = .ok (.iload_n 1, 1) := by decide +kernel
theorem dX2_joined_102 : decode cX2_joined 102 = .ok (.iload_n 2, 1) := by decide +kernel
theorem dX2_joined_103 : decode cX2_joined 103 = .ok (.imul, 1) := by decide +kernel
theorem dX2_joined_104 : decode cX2_joined 104 = .ok (.ireturn, 1) := by decide +kernel
theorem dX2_joined_105 : decode cX2_joined 105 = .ok (.iload_n 2, 1) := by decide +kernel
theorem dX2_joined_106 : decode cX2_joined 106 = .ok (.ifCond .ne 7, 3) := by decide +kernel
theorem dX2_joined_109 : decode cX2_joined 109 = .ok (.iconst 0, 1) := by decide +kernel
theorem dX2_joined_110 : decode cX2_joined 110 = .ok (.goto 6, 3) := by decide +kernel
theorem dX2_joined_113 : decode cX2_joined 113 = .ok (.iload_n 1, 1) := by decide +kernel
theorem dX2_joined_114 : decode cX2_joined 114 = .ok (.iload_n 2, 1) := by decide +kernel
theorem dX2_joined_115 : decode cX2_joined 115 = .ok (.idiv, 1) := by decide +kernel
theorem dX2_joined_116 : decode cX2_joined 116 = .ok (.ireturn, 1) := by decide +kernel
theorem bkX2_joined_0 {b : Int} {mem : qm} {Q : Int → qm → Prop}
    {v x y : Int}
    (l1 : v = 42 → Q (q_w32 (x * y)) mem)
    (l2 : v ≠ 42 → v = 43 → Q (q_w32 (x + y)) mem)
    (l3 : v ≠ 42 → v ≠ 43 → v = 45 → Q (q_w32 (x - y)) mem)
    (l4 : v ≠ 42 → v ≠ 43 → v ≠ 45 → v = 60 → y ≤ x → Q 0 mem)
    (l5 : v ≠ 42 → v ≠ 43 → v ≠ 45 → v = 60 → x < y → Q 1 mem)
    (l6 : v ≠ 42 → v ≠ 43 → v ≠ 45 → v ≠ 60 → v = 61 → x ≠ y → Q 0 mem)
    (l7 : v ≠ 42 → v ≠ 43 → v ≠ 45 → v ≠ 60 → v = 61 → x = y → Q 1 mem)
    (l8 : v ≠ 42 → v ≠ 43 → v ≠ 45 → v ≠ 60 → v ≠ 61 → v = 62 → x ≤ y → Q 0 mem)
    (l9 : v ≠ 42 → v ≠ 43 → v ≠ 45 → v ≠ 60 → v ≠ 61 → v = 62 → y < x → Q 1 mem)
    (o10 : v ≠ 42 → v ≠ 43 → v ≠ 45 → v ≠ 60 → v ≠ 61 → v ≠ 62 → y ≠ 0 → y ≠ 0)
    (l11 : v ≠ 42 → v ≠ 43 → v ≠ 45 → v ≠ 60 → v ≠ 61 → v ≠ 62 → y ≠ 0 → Q (q_oidiv x y) mem)
    (l12 : v ≠ 42 → v ≠ 43 → v ≠ 45 → v ≠ 60 → v ≠ 61 → v ≠ 62 → y = 0 → Q 0 mem) :
    q_At yX2_joined cX2_joined 3 (some .int) 1 0 0 (qK (q_rb b) Q) 0 [(0, v), (0, x), (0, y)] [] (q_sh0, q_rb b, mem) := by
  refine q_iload_n dX2_joined_0 rfl rfl ?_
  by_cases c1 : v = 42
  · skip
    refine q_look (off := 100) (tgt := 101) dX2_joined_1 (by decide) (by rw [c1]; rfl) (by decide) ?_
    refine q_iload_n dX2_joined_101 rfl rfl ?_
    refine q_iload_n dX2_joined_102 rfl rfl ?_
    refine q_imul dX2_joined_103 ?_
    exact q_iret dX2_joined_104 (qK_i (l1 c1))
  by_cases c2 : v = 43
  · skip
    refine q_look (off := 92) (tgt := 93) dX2_joined_1 (by decide) (by rw [c2]; rfl) (by decide) ?_
    refine q_iload_n dX2_joined_93 rfl rfl ?_
    refine q_iload_n dX2_joined_94 rfl rfl ?_
    refine q_iadd dX2_joined_95 ?_
    exact q_iret dX2_joined_96 (qK_i (l2 c1 c2))
  by_cases c3 : v = 45
  · skip
    refine q_look (off := 96) (tgt := 97) dX2_joined_1 (by decide) (by rw [c3]; rfl) (by decide) ?_
    refine q_iload_n dX2_joined_97 rfl rfl ?_
    refine q_iload_n dX2_joined_98 rfl rfl ?_
    refine q_isub dX2_joined_99 ?_
    exact q_iret dX2_joined_100 (qK_i (l3 c1 c2 c3))
  by_cases c4 : v = 60
  · skip
    refine q_look (off := 59) (tgt := 60) dX2_joined_1 (by decide) (by rw [c4]; rfl) (by decide) ?_
    refine q_iload_n dX2_joined_60 rfl rfl ?_
    refine q_iload_n dX2_joined_61 rfl rfl ?_
    refine qx_icmp_ge (tgt := 69) dX2_joined_62 (by decide) (fun c5 => ?_) (fun c5 => ?_)
    · skip
      refine qx_iconst dX2_joined_69 rfl rfl ?_
      exact q_iret dX2_joined_70 (qK_i (l4 c1 c2 c3 c4 c5))
    · skip
      refine qx_iconst dX2_joined_65 rfl rfl ?_
      refine q_goto (tgt := 70) dX2_joined_66 (by decide) ?_
      exact q_iret dX2_joined_70 (qK_i (l5 c1 c2 c3 c4 c5))
  by_cases c6 : v = 61
  · skip
    refine q_look (off := 81) (tgt := 82) dX2_joined_1 (by decide) (by rw [c6]; rfl) (by decide) ?_
    refine q_iload_n dX2_joined_82 rfl rfl ?_
    refine q_iload_n dX2_joined_83 rfl rfl ?_
    refine qx_icmp_ne (tgt := 91) dX2_joined_84 (by decide) (fun c7 => ?_) (fun c7 => ?_)
    · skip
      refine qx_iconst dX2_joined_91 rfl rfl ?_
      exact q_iret dX2_joined_92 (qK_i (l6 c1 c2 c3 c4 c6 c7))
    · skip
      refine qx_iconst dX2_joined_87 rfl rfl ?_
      refine q_goto (tgt := 92) dX2_joined_88 (by decide) ?_
      exact q_iret dX2_joined_92 (qK_i (l7 c1 c2 c3 c4 c6 c7))
  by_cases c8 : v = 62
  · skip
    refine q_look (off := 70) (tgt := 71) dX2_joined_1 (by decide) (by rw [c8]; rfl) (by decide) ?_
    refine q_iload_n dX2_joined_71 rfl rfl ?_
    refine q_iload_n dX2_joined_72 rfl rfl ?_
    refine qx_icmp_le (tgt := 80) dX2_joined_73 (by decide) (fun c9 => ?_) (fun c9 => ?_)
    · skip
      refine qx_iconst dX2_joined_80 rfl rfl ?_
      exact q_iret dX2_joined_81 (qK_i (l8 c1 c2 c3 c4 c6 c8 c9))
    · skip
      refine qx_iconst dX2_joined_76 rfl rfl ?_
      refine q_goto (tgt := 81) dX2_joined_77 (by decide) ?_
      exact q_iret dX2_joined_81 (qK_i (l9 c1 c2 c3 c4 c6 c8 c9))
  refine q_look (off := 104) (tgt := 105) dX2_joined_1 (by decide) (by simp only [lookupswitch.offset_cons, lookupswitch.offset_nil]; repeat rw [if_neg (by omega)]) (by decide) ?_
  refine q_iload_n dX2_joined_105 rfl rfl ?_
  refine qx_if_ne (tgt := 113) dX2_joined_106 (by decide) (fun c10 => ?_) (fun c10 => ?_)
  · skip
    refine q_iload_n dX2_joined_113 rfl rfl ?_
    refine q_iload_n dX2_joined_114 rfl rfl ?_
    refine q_idiv dX2_joined_115 (o10 c1 c2 c3 c4 c6 c8 c10) ?_
    exact q_iret dX2_joined_116 (qK_i (l11 c1 c2 c3 c4 c6 c8 c10))
  · skip
    refine qx_iconst dX2_joined_109 rfl rfl ?_
    refine q_goto (tgt := 116) dX2_joined_110 (by decide) ?_
    exact q_iret dX2_joined_116 (qK_i (l12 c1 c2 c3 c4 c6 c8 c10))
theorem dX2_worth_0 : decode cX2_worth 0 = .ok (.iconst 0, 1) := by decide +kernel
theorem dX2_worth_1 : decode cX2_worth 1 = .ok (.istore_n 1, 1) := by decide +kernel
theorem dX2_worth_2 : decode cX2_worth 2 = .ok (.iconst 0, 1) := by decide +kernel
theorem dX2_worth_3 : decode cX2_worth 3 = .ok (.istore_n 2, 1) := by decide +kernel
theorem dX2_worth_4 : decode cX2_worth 4 = .ok (.iload_n 2, 1) := by decide +kernel
theorem dX2_worth_5 : decode cX2_worth 5 = .ok (.aload_n 0, 1) := by decide +kernel
theorem dX2_worth_6 : decode cX2_worth 6 = .ok (.getfield 24, 3) := by decide +kernel
theorem dX2_worth_9 : decode cX2_worth 9 = .ok (.if_icmp .ge 115, 3) := by decide +kernel
theorem dX2_worth_12 : decode cX2_worth 12 = .ok (.aload_n 0, 1) := by decide +kernel
theorem dX2_worth_13 : decode cX2_worth 13 = .ok (.getfield 15, 3) := by decide +kernel
theorem dX2_worth_16 : decode cX2_worth 16 = .ok (.iload_n 2, 1) := by decide +kernel
theorem dX2_worth_17 : decode cX2_worth 17 = .ok (.iaload, 1) := by decide +kernel
theorem dX2_worth_18 : decode cX2_worth 18 = .ok (.istore_n 3, 1) := by decide +kernel
theorem dX2_worth_19 : decode cX2_worth 19 = .ok (.iload_n 3, 1) := by decide +kernel
theorem dX2_worth_20 : decode cX2_worth 20 = .ok (.sipush 3000, 3) := by decide +kernel
theorem dX2_worth_23 : decode cX2_worth 23 = .ok (.if_icmp .lt 44, 3) := by decide +kernel
theorem dX2_worth_26 : decode cX2_worth 26 = .ok (.iload_n 1, 1) := by decide +kernel
theorem dX2_worth_27 : decode cX2_worth 27 = .ok (.iconst 1, 1) := by decide +kernel
theorem dX2_worth_28 : decode cX2_worth 28 = .ok (.if_icmp .le 39, 3) := by decide +kernel
theorem dX2_worth_31 : decode cX2_worth 31 = .ok (.iinc 1 (-1), 3) := by decide +kernel
theorem dX2_worth_34 : decode cX2_worth 34 = .ok (.aload_n 0, 1) := by decide +kernel
theorem dX2_worth_35 : decode cX2_worth 35 = .ok (.getfield 18, 3) := by decide +kernel
theorem dX2_worth_38 : decode cX2_worth 38 = .ok (.iload_n 1, 1) := by decide +kernel
theorem dX2_worth_39 : decode cX2_worth 39 = .ok (.iconst 1, 1) := by decide +kernel
theorem dX2_worth_40 : decode cX2_worth 40 = .ok (.isub, 1) := by decide +kernel
theorem dX2_worth_41 : decode cX2_worth 41 = .ok (.iload_n 3, 1) := by decide +kernel
theorem dX2_worth_42 : decode cX2_worth 42 = .ok (.sipush 3000, 3) := by decide +kernel
theorem dX2_worth_45 : decode cX2_worth 45 = .ok (.isub, 1) := by decide +kernel
theorem dX2_worth_46 : decode cX2_worth 46 = .ok (.aload_n 0, 1) := by decide +kernel
theorem dX2_worth_47 : decode cX2_worth 47 = .ok (.getfield 18, 3) := by decide +kernel
theorem dX2_worth_50 : decode cX2_worth 50 = .ok (.iload_n 1, 1) := by decide +kernel
theorem dX2_worth_51 : decode cX2_worth 51 = .ok (.iconst 1, 1) := by decide +kernel
theorem dX2_worth_52 : decode cX2_worth 52 = .ok (.isub, 1) := by decide +kernel
theorem dX2_worth_53 : decode cX2_worth 53 = .ok (.iaload, 1) := by decide +kernel
theorem dX2_worth_54 : decode cX2_worth 54 = .ok (.aload_n 0, 1) := by decide +kernel
theorem dX2_worth_55 : decode cX2_worth 55 = .ok (.getfield 18, 3) := by decide +kernel
theorem dX2_worth_58 : decode cX2_worth 58 = .ok (.iload_n 1, 1) := by decide +kernel
theorem dX2_worth_59 : decode cX2_worth 59 = .ok (.iaload, 1) := by decide +kernel
theorem dX2_worth_60 : decode cX2_worth 60 = .ok (.invokestatic 99, 3) := by decide +kernel
theorem dX2_worth_63 : decode cX2_worth 63 = .ok (.iastore, 1) := by decide +kernel
theorem dX2_worth_64 : decode cX2_worth 64 = .ok (.goto 54, 3) := by decide +kernel
theorem dX2_worth_67 : decode cX2_worth 67 = .ok (.iload_n 3, 1) := by decide +kernel
theorem dX2_worth_68 : decode cX2_worth 68 = .ok (.sipush 2000, 3) := by decide +kernel
theorem dX2_worth_71 : decode cX2_worth 71 = .ok (.if_icmp .ne 27, 3) := by decide +kernel
theorem dX2_worth_74 : decode cX2_worth 74 = .ok (.iload_n 1, 1) := by decide +kernel
theorem dX2_worth_75 : decode cX2_worth 75 = .ok (.ifCond .le 23, 3) := by decide +kernel
theorem dX2_worth_78 : decode cX2_worth 78 = .ok (.aload_n 0, 1) := by decide +kernel
theorem dX2_worth_79 : decode cX2_worth 79 = .ok (.getfield 18, 3) := by decide +kernel
theorem dX2_worth_82 : decode cX2_worth 82 = .ok (.iload_n 1, 1) := by decide +kernel
theorem dX2_worth_83 : decode cX2_worth 83 = .ok (.iconst 1, 1) := by decide +kernel
theorem dX2_worth_84 : decode cX2_worth 84 = .ok (.isub, 1) := by decide +kernel
theorem dX2_worth_85 : decode cX2_worth 85 = .ok (.aload_n 0, 1) := by decide +kernel
theorem dX2_worth_86 : decode cX2_worth 86 = .ok (.getfield 18, 3) := by decide +kernel
theorem dX2_worth_89 : decode cX2_worth 89 = .ok (.iload_n 1, 1) := by decide +kernel
theorem dX2_worth_90 : decode cX2_worth 90 = .ok (.iconst 1, 1) := by decide +kernel
theorem dX2_worth_91 : decode cX2_worth 91 = .ok (.isub, 1) := by decide +kernel
theorem dX2_worth_92 : decode cX2_worth 92 = .ok (.iaload, 1) := by decide +kernel
theorem dX2_worth_93 : decode cX2_worth 93 = .ok (.ineg, 1) := by decide +kernel
theorem dX2_worth_94 : decode cX2_worth 94 = .ok (.iastore, 1) := by decide +kernel
theorem dX2_worth_95 : decode cX2_worth 95 = .ok (.goto 23, 3) := by decide +kernel
theorem dX2_worth_98 : decode cX2_worth 98 = .ok (.iload_n 1, 1) := by decide +kernel
theorem dX2_worth_99 : decode cX2_worth 99 = .ok (.bipush 40, 2) := by decide +kernel
theorem dX2_worth_101 : decode cX2_worth 101 = .ok (.if_icmp .ge 17, 3) := by decide +kernel
theorem dX2_worth_104 : decode cX2_worth 104 = .ok (.aload_n 0, 1) := by decide +kernel
theorem dX2_worth_105 : decode cX2_worth 105 = .ok (.getfield 18, 3) := by decide +kernel
theorem dX2_worth_108 : decode cX2_worth 108 = .ok (.iload_n 1, 1) := by decide +kernel
theorem dX2_worth_109 : decode cX2_worth 109 = .ok (.aload_n 0, 1) := by decide +kernel
theorem dX2_worth_110 : decode cX2_worth 110 = .ok (.iload_n 3, 1) := by decide +kernel
theorem dX2_worth_111 : decode cX2_worth 111 = .ok (.invokevirtual 103, 3) := by decide +kernel
theorem dX2_worth_114 : decode cX2_worth 114 = .ok (.iastore, 1) := by decide +kernel
theorem dX2_worth_115 : decode cX2_worth 115 = .ok (.iinc 1 1, 3) := by decide +kernel
theorem dX2_worth_118 : decode cX2_worth 118 = .ok (.iinc 2 1, 3) := by decide +kernel
theorem dX2_worth_121 : decode cX2_worth 121 = .ok (.goto (-117), 3) := by decide +kernel
theorem dX2_worth_124 : decode cX2_worth 124 = .ok (.aload_n 0, 1) := by decide +kernel
theorem dX2_worth_125 : decode cX2_worth 125 = .ok (.getfield 18, 3) := by decide +kernel
theorem dX2_worth_128 : decode cX2_worth 128 = .ok (.iconst 0, 1) := by decide +kernel
theorem dX2_worth_129 : decode cX2_worth 129 = .ok (.iaload, 1) := by decide +kernel
theorem dX2_worth_130 : decode cX2_worth 130 = .ok (.ireturn, 1) := by decide +kernel
theorem bkX2_worth_0 {b : Int} {mem : qm} {Q : Int → qm → Prop}
    (l1 : q_At yX2_worth cX2_worth 4 (some .int) 2 0 0 (qK (q_rb b) Q) 4 [(2, 149), (0, 0), (0, 0), (4, 0)] [] (q_sh0, q_rb b, mem)) :
    q_At yX2_worth cX2_worth 4 (some .int) 2 0 0 (qK (q_rb b) Q) 0 [(2, 149), (4, 0), (4, 0), (4, 0)] [] (q_sh0, q_rb b, mem) := by
  refine qx_iconst dX2_worth_0 rfl rfl ?_
  refine qx_istore_n (L' := [(2, 149), (0, 0), (4, 0), (4, 0)]) dX2_worth_1 rfl rfl rfl rfl ?_
  refine qx_iconst dX2_worth_2 rfl rfl ?_
  refine qx_istore_n (L' := [(2, 149), (0, 0), (0, 0), (4, 0)]) dX2_worth_3 rfl rfl rfl rfl ?_
  exact l1
theorem bkX2_worth_4 {b : Int} {mem : qm} {Q : Int → qm → Prop}
    {v1 v2 : Int}
    (o1 : (mem 149 5) ≤ v2 → ((0 : Int) ≤ 0 ∧ (0 : Int) < 40))
    (l2 : (mem 149 5) ≤ v2 → Q (mem 152 0) mem)
    (o3 : v2 < (mem 149 5) → (0 ≤ v2 ∧ v2 < 40))
    (o4 : v2 < (mem 149 5) → (mem 151 v2) < 3000 → (mem 151 v2) ≠ 2000 → 40 ≤ v1 → q_in32 (v2 + 1))
    (l5 : v2 < (mem 149 5) → (mem 151 v2) < 3000 → (mem 151 v2) ≠ 2000 → 40 ≤ v1 → q_At yX2_worth cX2_worth 4 (some .int) 2 0 0 (qK (q_rb b) Q) 4 [(2, 149), (0, v1), (0, (v2 + 1)), (4, 0)] [] (q_sh0, q_rb b, mem))
    {P5 : Int → qm → Prop}
    (l6 : v2 < (mem 149 5) → (mem 151 v2) < 3000 → (mem 151 v2) ≠ 2000 → v1 < 40 → q_Ev yX2_valueOf cX2_valueOf 3 (some .int) 1 0 0 [(2, 149), (0, (mem 151 v2))] (q_sh0, q_rb b, mem) (qK (q_rb b) (P5)))
    (o7 : v2 < (mem 149 5) → (mem 151 v2) < 3000 → (mem 151 v2) ≠ 2000 → v1 < 40 → ∀ (r5 : Int), ∀ (m5 : qm), P5 r5 m5 → q_in32 r5 → (0 ≤ v1 ∧ v1 < 40) ∧ q_in32 (v1 + 1) ∧ q_in32 (v2 + 1))
    (l8 : v2 < (mem 149 5) → (mem 151 v2) < 3000 → (mem 151 v2) ≠ 2000 → v1 < 40 → ∀ (r5 : Int), ∀ (m5 : qm), P5 r5 m5 → q_in32 r5 → q_At yX2_worth cX2_worth 4 (some .int) 2 0 0 (qK (q_rb b) Q) 4 [(2, 149), (0, (v1 + 1)), (0, (v2 + 1)), (4, 0)] [] (q_sh0, q_rb b, (q_up m5 152 v1 r5)))
    (o9 : v2 < (mem 149 5) → (mem 151 v2) < 3000 → (mem 151 v2) = 2000 → v1 ≤ 0 → 40 ≤ v1 → q_in32 (v2 + 1))
    (l10 : v2 < (mem 149 5) → (mem 151 v2) < 3000 → (mem 151 v2) = 2000 → v1 ≤ 0 → 40 ≤ v1 → q_At yX2_worth cX2_worth 4 (some .int) 2 0 0 (qK (q_rb b) Q) 4 [(2, 149), (0, v1), (0, (v2 + 1)), (4, 0)] [] (q_sh0, q_rb b, mem))
    {P8 : Int → qm → Prop}
    (l11 : v2 < (mem 149 5) → (mem 151 v2) < 3000 → (mem 151 v2) = 2000 → v1 ≤ 0 → v1 < 40 → q_Ev yX2_valueOf cX2_valueOf 3 (some .int) 1 0 0 [(2, 149), (0, (mem 151 v2))] (q_sh0, q_rb b, mem) (qK (q_rb b) (P8)))
    (o12 : v2 < (mem 149 5) → (mem 151 v2) < 3000 → (mem 151 v2) = 2000 → v1 ≤ 0 → v1 < 40 → ∀ (r8 : Int), ∀ (m8 : qm), P8 r8 m8 → q_in32 r8 → (0 ≤ v1 ∧ v1 < 40) ∧ q_in32 (v1 + 1) ∧ q_in32 (v2 + 1))
    (l13 : v2 < (mem 149 5) → (mem 151 v2) < 3000 → (mem 151 v2) = 2000 → v1 ≤ 0 → v1 < 40 → ∀ (r8 : Int), ∀ (m8 : qm), P8 r8 m8 → q_in32 r8 → q_At yX2_worth cX2_worth 4 (some .int) 2 0 0 (qK (q_rb b) Q) 4 [(2, 149), (0, (v1 + 1)), (0, (v2 + 1)), (4, 0)] [] (q_sh0, q_rb b, (q_up m8 152 v1 r8)))
    (o14 : v2 < (mem 149 5) → (mem 151 v2) < 3000 → (mem 151 v2) = 2000 → 0 < v1 → q_in32 (v1 - 1) ∧ (0 ≤ (v1 - 1) ∧ (v1 - 1) < 40) ∧ q_in32 (v2 + 1))
    (l15 : v2 < (mem 149 5) → (mem 151 v2) < 3000 → (mem 151 v2) = 2000 → 0 < v1 → q_At yX2_worth cX2_worth 4 (some .int) 2 0 0 (qK (q_rb b) Q) 4 [(2, 149), (0, v1), (0, (v2 + 1)), (4, 0)] [] (q_sh0, q_rb b, (q_up mem 152 (v1 - 1) (q_oineg (mem 152 (v1 - 1))))))
    (o16 : v2 < (mem 149 5) → 3000 ≤ (mem 151 v2) → v1 ≤ 1 → (mem 151 v2) ≠ 2000 → 40 ≤ v1 → q_in32 (v2 + 1))
    (l17 : v2 < (mem 149 5) → 3000 ≤ (mem 151 v2) → v1 ≤ 1 → (mem 151 v2) ≠ 2000 → 40 ≤ v1 → q_At yX2_worth cX2_worth 4 (some .int) 2 0 0 (qK (q_rb b) Q) 4 [(2, 149), (0, v1), (0, (v2 + 1)), (4, 0)] [] (q_sh0, q_rb b, mem))
    {P12 : Int → qm → Prop}
    (l18 : v2 < (mem 149 5) → 3000 ≤ (mem 151 v2) → v1 ≤ 1 → (mem 151 v2) ≠ 2000 → v1 < 40 → q_Ev yX2_valueOf cX2_valueOf 3 (some .int) 1 0 0 [(2, 149), (0, (mem 151 v2))] (q_sh0, q_rb b, mem) (qK (q_rb b) (P12)))
    (o19 : v2 < (mem 149 5) → 3000 ≤ (mem 151 v2) → v1 ≤ 1 → (mem 151 v2) ≠ 2000 → v1 < 40 → ∀ (r12 : Int), ∀ (m12 : qm), P12 r12 m12 → q_in32 r12 → (0 ≤ v1 ∧ v1 < 40) ∧ q_in32 (v1 + 1) ∧ q_in32 (v2 + 1))
    (l20 : v2 < (mem 149 5) → 3000 ≤ (mem 151 v2) → v1 ≤ 1 → (mem 151 v2) ≠ 2000 → v1 < 40 → ∀ (r12 : Int), ∀ (m12 : qm), P12 r12 m12 → q_in32 r12 → q_At yX2_worth cX2_worth 4 (some .int) 2 0 0 (qK (q_rb b) Q) 4 [(2, 149), (0, (v1 + 1)), (0, (v2 + 1)), (4, 0)] [] (q_sh0, q_rb b, (q_up m12 152 v1 r12)))
    (o21 : v2 < (mem 149 5) → 3000 ≤ (mem 151 v2) → v1 ≤ 1 → (mem 151 v2) = 2000 → v1 ≤ 0 → 40 ≤ v1 → q_in32 (v2 + 1))
    (l22 : v2 < (mem 149 5) → 3000 ≤ (mem 151 v2) → v1 ≤ 1 → (mem 151 v2) = 2000 → v1 ≤ 0 → 40 ≤ v1 → q_At yX2_worth cX2_worth 4 (some .int) 2 0 0 (qK (q_rb b) Q) 4 [(2, 149), (0, v1), (0, (v2 + 1)), (4, 0)] [] (q_sh0, q_rb b, mem))
    {P15 : Int → qm → Prop}
    (l23 : v2 < (mem 149 5) → 3000 ≤ (mem 151 v2) → v1 ≤ 1 → (mem 151 v2) = 2000 → v1 ≤ 0 → v1 < 40 → q_Ev yX2_valueOf cX2_valueOf 3 (some .int) 1 0 0 [(2, 149), (0, (mem 151 v2))] (q_sh0, q_rb b, mem) (qK (q_rb b) (P15)))
    (o24 : v2 < (mem 149 5) → 3000 ≤ (mem 151 v2) → v1 ≤ 1 → (mem 151 v2) = 2000 → v1 ≤ 0 → v1 < 40 → ∀ (r15 : Int), ∀ (m15 : qm), P15 r15 m15 → q_in32 r15 → (0 ≤ v1 ∧ v1 < 40) ∧ q_in32 (v1 + 1) ∧ q_in32 (v2 + 1))
    (l25 : v2 < (mem 149 5) → 3000 ≤ (mem 151 v2) → v1 ≤ 1 → (mem 151 v2) = 2000 → v1 ≤ 0 → v1 < 40 → ∀ (r15 : Int), ∀ (m15 : qm), P15 r15 m15 → q_in32 r15 → q_At yX2_worth cX2_worth 4 (some .int) 2 0 0 (qK (q_rb b) Q) 4 [(2, 149), (0, (v1 + 1)), (0, (v2 + 1)), (4, 0)] [] (q_sh0, q_rb b, (q_up m15 152 v1 r15)))
    (o26 : v2 < (mem 149 5) → 3000 ≤ (mem 151 v2) → v1 ≤ 1 → (mem 151 v2) = 2000 → 0 < v1 → q_in32 (v1 - 1) ∧ (0 ≤ (v1 - 1) ∧ (v1 - 1) < 40) ∧ q_in32 (v2 + 1))
    (l27 : v2 < (mem 149 5) → 3000 ≤ (mem 151 v2) → v1 ≤ 1 → (mem 151 v2) = 2000 → 0 < v1 → q_At yX2_worth cX2_worth 4 (some .int) 2 0 0 (qK (q_rb b) Q) 4 [(2, 149), (0, v1), (0, (v2 + 1)), (4, 0)] [] (q_sh0, q_rb b, (q_up mem 152 (v1 - 1) (q_oineg (mem 152 (v1 - 1))))))
    (o28 : v2 < (mem 149 5) → 3000 ≤ (mem 151 v2) → 1 < v1 → q_in32 (v1 + (-1)) ∧ q_in32 ((v1 + (-1)) - 1) ∧ q_in32 ((mem 151 v2) - 3000) ∧ (0 ≤ ((v1 + (-1)) - 1) ∧ ((v1 + (-1)) - 1) < 40) ∧ (0 ≤ (v1 + (-1)) ∧ (v1 + (-1)) < 40))
    {P16 : Int → qm → Prop}
    (l29 : v2 < (mem 149 5) → 3000 ≤ (mem 151 v2) → 1 < v1 → q_Ev yX2_joined cX2_joined 3 (some .int) 1 0 0 [(0, ((mem 151 v2) - 3000)), (0, (mem 152 ((v1 + (-1)) - 1))), (0, (mem 152 (v1 + (-1))))] (q_sh0, q_rb b, mem) (qK (q_rb b) (P16)))
    (o30 : v2 < (mem 149 5) → 3000 ≤ (mem 151 v2) → 1 < v1 → ∀ (r16 : Int), ∀ (m16 : qm), P16 r16 m16 → q_in32 r16 → q_in32 (v2 + 1))
    (l31 : v2 < (mem 149 5) → 3000 ≤ (mem 151 v2) → 1 < v1 → ∀ (r16 : Int), ∀ (m16 : qm), P16 r16 m16 → q_in32 r16 → q_At yX2_worth cX2_worth 4 (some .int) 2 0 0 (qK (q_rb b) Q) 4 [(2, 149), (0, (v1 + (-1))), (0, (v2 + 1)), (4, 0)] [] (q_sh0, q_rb b, (q_up m16 152 ((v1 + (-1)) - 1) r16))) :
    q_At yX2_worth cX2_worth 4 (some .int) 2 0 0 (qK (q_rb b) Q) 4 [(2, 149), (0, v1), (0, v2), (4, 0)] [] (q_sh0, q_rb b, mem) := by
  refine q_iload_n dX2_worth_4 rfl rfl ?_
  refine q_aload_n dX2_worth_5 rfl rfl ?_
  refine qx_getI (ci := 2) (k := 5) (v := (mem 149 5)) dX2_worth_6 rfl rfl rfl tw262 rfl qs149 rfl ?_
  refine qx_icmp_ge (tgt := 124) dX2_worth_9 (by decide) (fun c1 => ?_) (fun c1 => ?_)
  · skip
    refine q_aload_n dX2_worth_124 rfl rfl ?_
    refine q_getR (ci := 2) (k := 2) dX2_worth_125 rfl (by decide) rfl tw258 (by decide) qs149 qw149_2 (by decide) ?_
    refine qx_iconst dX2_worth_128 rfl rfl ?_
    refine qx_iald (v := (mem 152 0)) dX2_worth_129 qs152 (o1 c1) rfl ?_
    exact q_iret dX2_worth_130 (qK_i (l2 c1))
  · skip
    refine q_aload_n dX2_worth_12 rfl rfl ?_
    refine q_getR (ci := 2) (k := 1) dX2_worth_13 rfl (by decide) rfl tw257 (by decide) qs149 qw149_1 (by decide) ?_
    refine q_iload_n dX2_worth_16 rfl rfl ?_
    refine qx_iald (v := (mem 151 v2)) dX2_worth_17 qs151 (o3 c1) rfl ?_
    refine qx_istore_n (L' := [(2, 149), (0, v1), (0, v2), (0, (mem 151 v2))]) dX2_worth_18 rfl rfl rfl rfl ?_
    refine q_iload_n dX2_worth_19 rfl rfl ?_
    refine qx_sipush dX2_worth_20 rfl rfl ?_
    refine qx_icmp_lt (tgt := 67) dX2_worth_23 (by decide) (fun c2 => ?_) (fun c2 => ?_)
    · skip
      refine q_iload_n dX2_worth_67 rfl rfl ?_
      refine qx_sipush dX2_worth_68 rfl rfl ?_
      refine qx_icmp_ne (tgt := 98) dX2_worth_71 (by decide) (fun c3 => ?_) (fun c3 => ?_)
      · skip
        refine q_iload_n dX2_worth_98 rfl rfl ?_
        refine qx_bipush dX2_worth_99 rfl rfl ?_
        refine qx_icmp_ge (tgt := 118) dX2_worth_101 (by decide) (fun c4 => ?_) (fun c4 => ?_)
        · skip
          refine qx_iinc (L' := [(2, 149), (0, v1), (0, (v2 + 1)), (0, (mem 151 v2))]) dX2_worth_118 rfl rfl rfl (o4 c1 c2 c3 c4) rfl ?_
          refine q_goto (tgt := 4) dX2_worth_121 (by decide) ?_
          refine q_kill (L' := [(2, 149), (0, v1), (0, (v2 + 1)), (4, 0)]) 3 rfl ?_
          exact l5 c1 c2 c3 c4
        · skip
          refine q_aload_n dX2_worth_104 rfl rfl ?_
          refine q_getR (ci := 2) (k := 2) dX2_worth_105 rfl (by decide) rfl tw258 (by decide) qs149 qw149_2 (by decide) ?_
          refine q_iload_n dX2_worth_108 rfl rfl ?_
          refine q_aload_n dX2_worth_109 rfl rfl ?_
          refine q_iload_n dX2_worth_110 rfl rfl ?_
          refine qx_invV (ci := 2) [(0, (mem 151 v2))] [(0, (mem 151 v2)), (2, 149), (0, v1), (2, 152)] rfl qM_X2_valueOf dX2_worth_111 tw660 rfl qs149 rfl rfl rfl rfl (l6 c1 c2 c3 c4) (fun r5 m5 p5 q5 => ?_)
          refine q_iast dX2_worth_114 qs152 ((o7 c1 c2 c3 c4 r5 m5 p5 q5).1).1 ((o7 c1 c2 c3 c4 r5 m5 p5 q5).1).2 ?_
          refine qx_iinc (L' := [(2, 149), (0, (v1 + 1)), (0, v2), (0, (mem 151 v2))]) dX2_worth_115 rfl rfl rfl (o7 c1 c2 c3 c4 r5 m5 p5 q5).2.1 rfl ?_
          refine qx_iinc (L' := [(2, 149), (0, (v1 + 1)), (0, (v2 + 1)), (0, (mem 151 v2))]) dX2_worth_118 rfl rfl rfl (o7 c1 c2 c3 c4 r5 m5 p5 q5).2.2 rfl ?_
          refine q_goto (tgt := 4) dX2_worth_121 (by decide) ?_
          refine q_kill (L' := [(2, 149), (0, (v1 + 1)), (0, (v2 + 1)), (4, 0)]) 3 rfl ?_
          exact l8 c1 c2 c3 c4 r5 m5 p5 q5
      · skip
        refine q_iload_n dX2_worth_74 rfl rfl ?_
        refine qx_if_le (tgt := 98) dX2_worth_75 (by decide) (fun c6 => ?_) (fun c6 => ?_)
        · skip
          refine q_iload_n dX2_worth_98 rfl rfl ?_
          refine qx_bipush dX2_worth_99 rfl rfl ?_
          refine qx_icmp_ge (tgt := 118) dX2_worth_101 (by decide) (fun c7 => ?_) (fun c7 => ?_)
          · skip
            refine qx_iinc (L' := [(2, 149), (0, v1), (0, (v2 + 1)), (0, (mem 151 v2))]) dX2_worth_118 rfl rfl rfl (o9 c1 c2 c3 c6 c7) rfl ?_
            refine q_goto (tgt := 4) dX2_worth_121 (by decide) ?_
            refine q_kill (L' := [(2, 149), (0, v1), (0, (v2 + 1)), (4, 0)]) 3 rfl ?_
            exact l10 c1 c2 c3 c6 c7
          · skip
            refine q_aload_n dX2_worth_104 rfl rfl ?_
            refine q_getR (ci := 2) (k := 2) dX2_worth_105 rfl (by decide) rfl tw258 (by decide) qs149 qw149_2 (by decide) ?_
            refine q_iload_n dX2_worth_108 rfl rfl ?_
            refine q_aload_n dX2_worth_109 rfl rfl ?_
            refine q_iload_n dX2_worth_110 rfl rfl ?_
            refine qx_invV (ci := 2) [(0, (mem 151 v2))] [(0, (mem 151 v2)), (2, 149), (0, v1), (2, 152)] rfl qM_X2_valueOf dX2_worth_111 tw660 rfl qs149 rfl rfl rfl rfl (l11 c1 c2 c3 c6 c7) (fun r8 m8 p8 q8 => ?_)
            refine q_iast dX2_worth_114 qs152 ((o12 c1 c2 c3 c6 c7 r8 m8 p8 q8).1).1 ((o12 c1 c2 c3 c6 c7 r8 m8 p8 q8).1).2 ?_
            refine qx_iinc (L' := [(2, 149), (0, (v1 + 1)), (0, v2), (0, (mem 151 v2))]) dX2_worth_115 rfl rfl rfl (o12 c1 c2 c3 c6 c7 r8 m8 p8 q8).2.1 rfl ?_
            refine qx_iinc (L' := [(2, 149), (0, (v1 + 1)), (0, (v2 + 1)), (0, (mem 151 v2))]) dX2_worth_118 rfl rfl rfl (o12 c1 c2 c3 c6 c7 r8 m8 p8 q8).2.2 rfl ?_
            refine q_goto (tgt := 4) dX2_worth_121 (by decide) ?_
            refine q_kill (L' := [(2, 149), (0, (v1 + 1)), (0, (v2 + 1)), (4, 0)]) 3 rfl ?_
            exact l13 c1 c2 c3 c6 c7 r8 m8 p8 q8
        · skip
          refine q_aload_n dX2_worth_78 rfl rfl ?_
          refine q_getR (ci := 2) (k := 2) dX2_worth_79 rfl (by decide) rfl tw258 (by decide) qs149 qw149_2 (by decide) ?_
          refine q_iload_n dX2_worth_82 rfl rfl ?_
          refine qx_iconst dX2_worth_83 rfl rfl ?_
          refine qx_isub dX2_worth_84 (o14 c1 c2 c3 c6).1 ?_
          refine q_aload_n dX2_worth_85 rfl rfl ?_
          refine q_getR (ci := 2) (k := 2) dX2_worth_86 rfl (by decide) rfl tw258 (by decide) qs149 qw149_2 (by decide) ?_
          refine q_iload_n dX2_worth_89 rfl rfl ?_
          refine qx_iconst dX2_worth_90 rfl rfl ?_
          refine qx_isub dX2_worth_91 (o14 c1 c2 c3 c6).1 ?_
          refine qx_iald (v := (mem 152 (v1 - 1))) dX2_worth_92 qs152 (o14 c1 c2 c3 c6).2.1 rfl ?_
          refine q_ineg dX2_worth_93 ?_
          refine q_iast dX2_worth_94 qs152 ((o14 c1 c2 c3 c6).2.1).1 ((o14 c1 c2 c3 c6).2.1).2 ?_
          refine q_goto (tgt := 118) dX2_worth_95 (by decide) ?_
          refine qx_iinc (L' := [(2, 149), (0, v1), (0, (v2 + 1)), (0, (mem 151 v2))]) dX2_worth_118 rfl rfl rfl (o14 c1 c2 c3 c6).2.2 rfl ?_
          refine q_goto (tgt := 4) dX2_worth_121 (by decide) ?_
          refine q_kill (L' := [(2, 149), (0, v1), (0, (v2 + 1)), (4, 0)]) 3 rfl ?_
          exact l15 c1 c2 c3 c6
    · skip
      refine q_iload_n dX2_worth_26 rfl rfl ?_
      refine qx_iconst dX2_worth_27 rfl rfl ?_
      refine qx_icmp_le (tgt := 67) dX2_worth_28 (by decide) (fun c9 => ?_) (fun c9 => ?_)
      · skip
        refine q_iload_n dX2_worth_67 rfl rfl ?_
        refine qx_sipush dX2_worth_68 rfl rfl ?_
        refine qx_icmp_ne (tgt := 98) dX2_worth_71 (by decide) (fun c10 => ?_) (fun c10 => ?_)
        · skip
          refine q_iload_n dX2_worth_98 rfl rfl ?_
          refine qx_bipush dX2_worth_99 rfl rfl ?_
          refine qx_icmp_ge (tgt := 118) dX2_worth_101 (by decide) (fun c11 => ?_) (fun c11 => ?_)
          · skip
            refine qx_iinc (L' := [(2, 149), (0, v1), (0, (v2 + 1)), (0, (mem 151 v2))]) dX2_worth_118 rfl rfl rfl (o16 c1 c2 c9 c10 c11) rfl ?_
            refine q_goto (tgt := 4) dX2_worth_121 (by decide) ?_
            refine q_kill (L' := [(2, 149), (0, v1), (0, (v2 + 1)), (4, 0)]) 3 rfl ?_
            exact l17 c1 c2 c9 c10 c11
          · skip
            refine q_aload_n dX2_worth_104 rfl rfl ?_
            refine q_getR (ci := 2) (k := 2) dX2_worth_105 rfl (by decide) rfl tw258 (by decide) qs149 qw149_2 (by decide) ?_
            refine q_iload_n dX2_worth_108 rfl rfl ?_
            refine q_aload_n dX2_worth_109 rfl rfl ?_
            refine q_iload_n dX2_worth_110 rfl rfl ?_
            refine qx_invV (ci := 2) [(0, (mem 151 v2))] [(0, (mem 151 v2)), (2, 149), (0, v1), (2, 152)] rfl qM_X2_valueOf dX2_worth_111 tw660 rfl qs149 rfl rfl rfl rfl (l18 c1 c2 c9 c10 c11) (fun r12 m12 p12 q12 => ?_)
            refine q_iast dX2_worth_114 qs152 ((o19 c1 c2 c9 c10 c11 r12 m12 p12 q12).1).1 ((o19 c1 c2 c9 c10 c11 r12 m12 p12 q12).1).2 ?_
            refine qx_iinc (L' := [(2, 149), (0, (v1 + 1)), (0, v2), (0, (mem 151 v2))]) dX2_worth_115 rfl rfl rfl (o19 c1 c2 c9 c10 c11 r12 m12 p12 q12).2.1 rfl ?_
            refine qx_iinc (L' := [(2, 149), (0, (v1 + 1)), (0, (v2 + 1)), (0, (mem 151 v2))]) dX2_worth_118 rfl rfl rfl (o19 c1 c2 c9 c10 c11 r12 m12 p12 q12).2.2 rfl ?_
            refine q_goto (tgt := 4) dX2_worth_121 (by decide) ?_
            refine q_kill (L' := [(2, 149), (0, (v1 + 1)), (0, (v2 + 1)), (4, 0)]) 3 rfl ?_
            exact l20 c1 c2 c9 c10 c11 r12 m12 p12 q12
        · skip
          refine q_iload_n dX2_worth_74 rfl rfl ?_
          refine qx_if_le (tgt := 98) dX2_worth_75 (by decide) (fun c13 => ?_) (fun c13 => ?_)
          · skip
            refine q_iload_n dX2_worth_98 rfl rfl ?_
            refine qx_bipush dX2_worth_99 rfl rfl ?_
            refine qx_icmp_ge (tgt := 118) dX2_worth_101 (by decide) (fun c14 => ?_) (fun c14 => ?_)
            · skip
              refine qx_iinc (L' := [(2, 149), (0, v1), (0, (v2 + 1)), (0, (mem 151 v2))]) dX2_worth_118 rfl rfl rfl (o21 c1 c2 c9 c10 c13 c14) rfl ?_
              refine q_goto (tgt := 4) dX2_worth_121 (by decide) ?_
              refine q_kill (L' := [(2, 149), (0, v1), (0, (v2 + 1)), (4, 0)]) 3 rfl ?_
              exact l22 c1 c2 c9 c10 c13 c14
            · skip
              refine q_aload_n dX2_worth_104 rfl rfl ?_
              refine q_getR (ci := 2) (k := 2) dX2_worth_105 rfl (by decide) rfl tw258 (by decide) qs149 qw149_2 (by decide) ?_
              refine q_iload_n dX2_worth_108 rfl rfl ?_
              refine q_aload_n dX2_worth_109 rfl rfl ?_
              refine q_iload_n dX2_worth_110 rfl rfl ?_
              refine qx_invV (ci := 2) [(0, (mem 151 v2))] [(0, (mem 151 v2)), (2, 149), (0, v1), (2, 152)] rfl qM_X2_valueOf dX2_worth_111 tw660 rfl qs149 rfl rfl rfl rfl (l23 c1 c2 c9 c10 c13 c14) (fun r15 m15 p15 q15 => ?_)
              refine q_iast dX2_worth_114 qs152 ((o24 c1 c2 c9 c10 c13 c14 r15 m15 p15 q15).1).1 ((o24 c1 c2 c9 c10 c13 c14 r15 m15 p15 q15).1).2 ?_
              refine qx_iinc (L' := [(2, 149), (0, (v1 + 1)), (0, v2), (0, (mem 151 v2))]) dX2_worth_115 rfl rfl rfl (o24 c1 c2 c9 c10 c13 c14 r15 m15 p15 q15).2.1 rfl ?_
              refine qx_iinc (L' := [(2, 149), (0, (v1 + 1)), (0, (v2 + 1)), (0, (mem 151 v2))]) dX2_worth_118 rfl rfl rfl (o24 c1 c2 c9 c10 c13 c14 r15 m15 p15 q15).2.2 rfl ?_
              refine q_goto (tgt := 4) dX2_worth_121 (by decide) ?_
              refine q_kill (L' := [(2, 149), (0, (v1 + 1)), (0, (v2 + 1)), (4, 0)]) 3 rfl ?_
              exact l25 c1 c2 c9 c10 c13 c14 r15 m15 p15 q15
          · skip
            refine q_aload_n dX2_worth_78 rfl rfl ?_
            refine q_getR (ci := 2) (k := 2) dX2_worth_79 rfl (by decide) rfl tw258 (by decide) qs149 qw149_2 (by decide) ?_
            refine q_iload_n dX2_worth_82 rfl rfl ?_
            refine qx_iconst dX2_worth_83 rfl rfl ?_
            refine qx_isub dX2_worth_84 (o26 c1 c2 c9 c10 c13).1 ?_
            refine q_aload_n dX2_worth_85 rfl rfl ?_
            refine q_getR (ci := 2) (k := 2) dX2_worth_86 rfl (by decide) rfl tw258 (by decide) qs149 qw149_2 (by decide) ?_
            refine q_iload_n dX2_worth_89 rfl rfl ?_
            refine qx_iconst dX2_worth_90 rfl rfl ?_
            refine qx_isub dX2_worth_91 (o26 c1 c2 c9 c10 c13).1 ?_
            refine qx_iald (v := (mem 152 (v1 - 1))) dX2_worth_92 qs152 (o26 c1 c2 c9 c10 c13).2.1 rfl ?_
            refine q_ineg dX2_worth_93 ?_
            refine q_iast dX2_worth_94 qs152 ((o26 c1 c2 c9 c10 c13).2.1).1 ((o26 c1 c2 c9 c10 c13).2.1).2 ?_
            refine q_goto (tgt := 118) dX2_worth_95 (by decide) ?_
            refine qx_iinc (L' := [(2, 149), (0, v1), (0, (v2 + 1)), (0, (mem 151 v2))]) dX2_worth_118 rfl rfl rfl (o26 c1 c2 c9 c10 c13).2.2 rfl ?_
            refine q_goto (tgt := 4) dX2_worth_121 (by decide) ?_
            refine q_kill (L' := [(2, 149), (0, v1), (0, (v2 + 1)), (4, 0)]) 3 rfl ?_
            exact l27 c1 c2 c9 c10 c13
      · skip
        refine qx_iinc (L' := [(2, 149), (0, (v1 + (-1))), (0, v2), (0, (mem 151 v2))]) dX2_worth_31 rfl rfl rfl (o28 c1 c2 c9).1 rfl ?_
        refine q_aload_n dX2_worth_34 rfl rfl ?_
        refine q_getR (ci := 2) (k := 2) dX2_worth_35 rfl (by decide) rfl tw258 (by decide) qs149 qw149_2 (by decide) ?_
        refine q_iload_n dX2_worth_38 rfl rfl ?_
        refine qx_iconst dX2_worth_39 rfl rfl ?_
        refine qx_isub dX2_worth_40 (o28 c1 c2 c9).2.1 ?_
        refine q_iload_n dX2_worth_41 rfl rfl ?_
        refine qx_sipush dX2_worth_42 rfl rfl ?_
        refine qx_isub dX2_worth_45 (o28 c1 c2 c9).2.2.1 ?_
        refine q_aload_n dX2_worth_46 rfl rfl ?_
        refine q_getR (ci := 2) (k := 2) dX2_worth_47 rfl (by decide) rfl tw258 (by decide) qs149 qw149_2 (by decide) ?_
        refine q_iload_n dX2_worth_50 rfl rfl ?_
        refine qx_iconst dX2_worth_51 rfl rfl ?_
        refine qx_isub dX2_worth_52 (o28 c1 c2 c9).2.1 ?_
        refine qx_iald (v := (mem 152 ((v1 + (-1)) - 1))) dX2_worth_53 qs152 (o28 c1 c2 c9).2.2.2.1 rfl ?_
        refine q_aload_n dX2_worth_54 rfl rfl ?_
        refine q_getR (ci := 2) (k := 2) dX2_worth_55 rfl (by decide) rfl tw258 (by decide) qs149 qw149_2 (by decide) ?_
        refine q_iload_n dX2_worth_58 rfl rfl ?_
        refine qx_iald (v := (mem 152 (v1 + (-1)))) dX2_worth_59 qs152 (o28 c1 c2 c9).2.2.2.2 rfl ?_
        refine qx_invS [(0, ((mem 151 v2) - 3000)), (0, (mem 152 ((v1 + (-1)) - 1))), (0, (mem 152 (v1 + (-1))))] [(0, (mem 152 (v1 + (-1)))), (0, (mem 152 ((v1 + (-1)) - 1))), (0, ((mem 151 v2) - 3000)), (0, ((v1 + (-1)) - 1)), (2, 152)] rfl qM_X2_joined dX2_worth_60 tw657 rfl rfl rfl rfl (l29 c1 c2 c9) (fun r16 m16 p16 q16 => ?_)
        refine q_iast dX2_worth_63 qs152 ((o28 c1 c2 c9).2.2.2.1).1 ((o28 c1 c2 c9).2.2.2.1).2 ?_
        refine q_goto (tgt := 118) dX2_worth_64 (by decide) ?_
        refine qx_iinc (L' := [(2, 149), (0, (v1 + (-1))), (0, (v2 + 1)), (0, (mem 151 v2))]) dX2_worth_118 rfl rfl rfl (o30 c1 c2 c9 r16 m16 p16 q16) rfl ?_
        refine q_goto (tgt := 4) dX2_worth_121 (by decide) ?_
        refine q_kill (L' := [(2, 149), (0, (v1 + (-1))), (0, (v2 + 1)), (4, 0)]) 3 rfl ?_
        exact l31 c1 c2 c9 r16 m16 p16 q16
theorem dX11_lawOf_0 : decode cX11_lawOf 0 = .ok (.aload_n 0, 1) := by decide +kernel
theorem dX11_lawOf_1 : decode cX11_lawOf 1 = .ok (.getfield 76, 3) := by decide +kernel
theorem dX11_lawOf_4 : decode cX11_lawOf 4 = .ok (.invokevirtual 422, 3) := by decide +kernel
theorem dX11_lawOf_7 : decode cX11_lawOf 7 = .ok (.ifCond .eq 5, 3) := by decide +kernel
theorem dX11_lawOf_10 : decode cX11_lawOf 10 = .ok (.iconst 1, 1) := by decide +kernel
theorem dX11_lawOf_11 : decode cX11_lawOf 11 = .ok (.ireturn, 1) := by decide +kernel
theorem dX11_lawOf_12 : decode cX11_lawOf 12 = .ok (.aload_n 0, 1) := by decide +kernel
theorem dX11_lawOf_13 : decode cX11_lawOf 13 = .ok (.getfield 76, 3) := by decide +kernel
theorem dX11_lawOf_16 : decode cX11_lawOf 16 = .ok (.getfield 425, 3) := by decide +kernel
theorem dX11_lawOf_19 : decode cX11_lawOf 19 = .ok (.astore_n 2, 1) := by decide +kernel
theorem dX11_lawOf_20 : decode cX11_lawOf 20 = .ok (.aload_n 2, 1) := by decide +kernel
theorem dX11_lawOf_21 : decode cX11_lawOf 21 = .ok (.iconst 0, 1) := by decide +kernel
theorem dX11_lawOf_22 : decode cX11_lawOf 22 = .ok (.iload_n 1, 1) := by decide +kernel
theorem dX11_lawOf_23 : decode cX11_lawOf 23 = .ok (.iastore, 1) := by decide +kernel
theorem dX11_lawOf_24 : decode cX11_lawOf 24 = .ok (.aload_n 2, 1) := by decide +kernel
theorem dX11_lawOf_25 : decode cX11_lawOf 25 = .ok (.iconst 1, 1) := by decide +kernel
theorem dX11_lawOf_26 : decode cX11_lawOf 26 = .ok (.aload_n 0, 1) := by decide +kernel
theorem dX11_lawOf_27 : decode cX11_lawOf 27 = .ok (.getfield 19, 3) := by decide +kernel
theorem dX11_lawOf_30 : decode cX11_lawOf 30 = .ok (.getfield 412, 3) := by decide +kernel
theorem dX11_lawOf_33 : decode cX11_lawOf 33 = .ok (.iastore, 1) := by decide +kernel
theorem dX11_lawOf_34 : decode cX11_lawOf 34 = .ok (.aload_n 2, 1) := by decide +kernel
theorem dX11_lawOf_35 : decode cX11_lawOf 35 = .ok (.iconst 2, 1) := by decide +kernel
theorem dX11_lawOf_36 : decode cX11_lawOf 36 = .ok (.aload_n 0, 1) := by decide +kernel
theorem dX11_lawOf_37 : decode cX11_lawOf 37 = .ok (.getfield 19, 3) := by decide +kernel
theorem dX11_lawOf_40 : decode cX11_lawOf 40 = .ok (.getfield 412, 3) := by decide +kernel
theorem dX11_lawOf_43 : decode cX11_lawOf 43 = .ok (.bipush 12, 2) := by decide +kernel
theorem dX11_lawOf_45 : decode cX11_lawOf 45 = .ok (.irem, 1) := by decide +kernel
theorem dX11_lawOf_46 : decode cX11_lawOf 46 = .ok (.iastore, 1) := by decide +kernel
theorem dX11_lawOf_47 : decode cX11_lawOf 47 = .ok (.aload_n 2, 1) := by decide +kernel
theorem dX11_lawOf_48 : decode cX11_lawOf 48 = .ok (.iconst 3, 1) := by decide +kernel
theorem dX11_lawOf_49 : decode cX11_lawOf 49 = .ok (.aload_n 0, 1) := by decide +kernel
theorem dX11_lawOf_50 : decode cX11_lawOf 50 = .ok (.getfield 19, 3) := by decide +kernel
theorem dX11_lawOf_53 : decode cX11_lawOf 53 = .ok (.getfield 142, 3) := by decide +kernel
theorem dX11_lawOf_56 : decode cX11_lawOf 56 = .ok (.iload_n 1, 1) := by decide +kernel
theorem dX11_lawOf_57 : decode cX11_lawOf 57 = .ok (.iaload, 1) := by decide +kernel
theorem dX11_lawOf_58 : decode cX11_lawOf 58 = .ok (.iastore, 1) := by decide +kernel
theorem dX11_lawOf_59 : decode cX11_lawOf 59 = .ok (.aload_n 2, 1) := by decide +kernel
theorem dX11_lawOf_60 : decode cX11_lawOf 60 = .ok (.iconst 4, 1) := by decide +kernel
theorem dX11_lawOf_61 : decode cX11_lawOf 61 = .ok (.aload_n 0, 1) := by decide +kernel
theorem dX11_lawOf_62 : decode cX11_lawOf 62 = .ok (.getfield 19, 3) := by decide +kernel
theorem dX11_lawOf_65 : decode cX11_lawOf 65 = .ok (.getfield 148, 3) := by decide +kernel
theorem dX11_lawOf_68 : decode cX11_lawOf 68 = .ok (.iload_n 1, 1) := by decide +kernel
theorem dX11_lawOf_69 : decode cX11_lawOf 69 = .ok (.iaload, 1) := by decide +kernel
theorem dX11_lawOf_70 : decode cX11_lawOf 70 = .ok (.iastore, 1) := by decide +kernel
theorem dX11_lawOf_71 : decode cX11_lawOf 71 = .ok (.aload_n 2, 1) := by decide +kernel
theorem dX11_lawOf_72 : decode cX11_lawOf 72 = .ok (.iconst 5, 1) := by decide +kernel
theorem dX11_lawOf_73 : decode cX11_lawOf 73 = .ok (.aload_n 0, 1) := by decide +kernel
theorem dX11_lawOf_74 : decode cX11_lawOf 74 = .ok (.getfield 10, 3) := by decide +kernel
theorem dX11_lawOf_77 : decode cX11_lawOf 77 = .ok (.getfield 145, 3) := by decide +kernel
theorem dX11_lawOf_80 : decode cX11_lawOf 80 = .ok (.iload_n 1, 1) := by decide +kernel
theorem dX11_lawOf_81 : decode cX11_lawOf 81 = .ok (.iaload, 1) := by decide +kernel
theorem dX11_lawOf_82 : decode cX11_lawOf 82 = .ok (.iastore, 1) := by decide +kernel
theorem dX11_lawOf_83 : decode cX11_lawOf 83 = .ok (.aload_n 2, 1) := by decide +kernel
theorem dX11_lawOf_84 : decode cX11_lawOf 84 = .ok (.bipush 6, 2) := by decide +kernel
theorem dX11_lawOf_86 : decode cX11_lawOf 86 = .ok (.aload_n 0, 1) := by decide +kernel
theorem dX11_lawOf_87 : decode cX11_lawOf 87 = .ok (.getfield 10, 3) := by decide +kernel
theorem dX11_lawOf_90 : decode cX11_lawOf 90 = .ok (.getfield 151, 3) := by decide +kernel
theorem dX11_lawOf_93 : decode cX11_lawOf 93 = .ok (.iload_n 1, 1) := by decide +kernel
theorem dX11_lawOf_94 : decode cX11_lawOf 94 = .ok (.iaload, 1) := by decide +kernel
theorem dX11_lawOf_95 : decode cX11_lawOf 95 = .ok (.iastore, 1) := by decide +kernel
theorem dX11_lawOf_96 : decode cX11_lawOf 96 = .ok (.aload_n 2, 1) := by decide +kernel
theorem dX11_lawOf_97 : decode cX11_lawOf 97 = .ok (.bipush 7, 2) := by decide +kernel
theorem dX11_lawOf_99 : decode cX11_lawOf 99 = .ok (.aload_n 0, 1) := by decide +kernel
theorem dX11_lawOf_100 : decode cX11_lawOf 100 = .ok (.getfield 10, 3) := by decide +kernel
theorem dX11_lawOf_103 : decode cX11_lawOf 103 = .ok (.getfield 154, 3) := by decide +kernel
theorem dX11_lawOf_106 : decode cX11_lawOf 106 = .ok (.iload_n 1, 1) := by decide +kernel
theorem dX11_lawOf_107 : decode cX11_lawOf 107 = .ok (.iaload, 1) := by decide +kernel
theorem dX11_lawOf_108 : decode cX11_lawOf 108 = .ok (.iastore, 1) := by decide +kernel
theorem dX11_lawOf_109 : decode cX11_lawOf 109 = .ok (.aload_n 2, 1) := by decide +kernel
theorem dX11_lawOf_110 : decode cX11_lawOf 110 = .ok (.bipush 8, 2) := by decide +kernel
theorem dX11_lawOf_112 : decode cX11_lawOf 112 = .ok (.aload_n 0, 1) := by decide +kernel
theorem dX11_lawOf_113 : decode cX11_lawOf 113 = .ok (.getfield 19, 3) := by decide +kernel
theorem dX11_lawOf_116 : decode cX11_lawOf 116 = .ok (.getfield 160, 3) := by decide +kernel
theorem dX11_lawOf_119 : decode cX11_lawOf 119 = .ok (.iload_n 1, 1) := by decide +kernel
theorem dX11_lawOf_120 : decode cX11_lawOf 120 = .ok (.iaload, 1) := by decide +kernel
theorem dX11_lawOf_121 : decode cX11_lawOf 121 = .ok (.iastore, 1) := by decide +kernel
theorem dX11_lawOf_122 : decode cX11_lawOf 122 = .ok (.aload_n 2, 1) := by decide +kernel
theorem dX11_lawOf_123 : decode cX11_lawOf 123 = .ok (.bipush 9, 2) := by decide +kernel
theorem dX11_lawOf_125 : decode cX11_lawOf 125 = .ok (.aload_n 0, 1) := by decide +kernel
theorem dX11_lawOf_126 : decode cX11_lawOf 126 = .ok (.getfield 19, 3) := by decide +kernel
theorem dX11_lawOf_129 : decode cX11_lawOf 129 = .ok (.aload_n 0, 1) := by decide +kernel
theorem dX11_lawOf_130 : decode cX11_lawOf 130 = .ok (.getfield 10, 3) := by decide +kernel
theorem dX11_lawOf_133 : decode cX11_lawOf 133 = .ok (.getfield 151, 3) := by decide +kernel
theorem dX11_lawOf_136 : decode cX11_lawOf 136 = .ok (.iload_n 1, 1) := by decide +kernel
theorem dX11_lawOf_137 : decode cX11_lawOf 137 = .ok (.iaload, 1) := by decide +kernel
theorem dX11_lawOf_138 : decode cX11_lawOf 138 = .ok (.invokevirtual 428, 3) := by decide +kernel
theorem dX11_lawOf_141 : decode cX11_lawOf 141 = .ok (.iastore, 1) := by decide +kernel
theorem dX11_lawOf_142 : decode cX11_lawOf 142 = .ok (.aload_n 0, 1) := by decide +kernel
theorem dX11_lawOf_143 : decode cX11_lawOf 143 = .ok (.getfield 76, 3) := by decide +kernel
theorem dX11_lawOf_146 : decode cX11_lawOf 146 = .ok (.invokevirtual 431, 3) := by decide +kernel
theorem dX11_lawOf_149 : decode cX11_lawOf 149 = .ok (.ireturn, 1) := by decide +kernel
theorem bkX11_lawOf_0 {b : Int} {mem : qm} {Q : Int → qm → Prop}
    {j : Int}
    {P1 : Int → qm → Prop}
    (l1 : q_Ev yX2_isNone cX2_isNone 1 (some .boolean) 1 0 0 [(2, 149)] (q_sh0, q_rb b, mem) (qK (q_rb b) (P1)))
    (o2 : ∀ (r1 : Int), ∀ (m1 : qm), P1 r1 m1 → q_in32 r1 → r1 = 0 → ((0 : Int) ≤ 0 ∧ (0 : Int) < 10) ∧ ((0 : Int) ≤ 1 ∧ (1 : Int) < 10) ∧ ((0 : Int) ≤ 2 ∧ (2 : Int) < 10) ∧ (0 ≤ j ∧ j < 9) ∧ ((0 : Int) ≤ 3 ∧ (3 : Int) < 10) ∧ ((0 : Int) ≤ 4 ∧ (4 : Int) < 10) ∧ ((0 : Int) ≤ 5 ∧ (5 : Int) < 10) ∧ ((0 : Int) ≤ 6 ∧ (6 : Int) < 10) ∧ ((0 : Int) ≤ 7 ∧ (7 : Int) < 10) ∧ ((0 : Int) ≤ 8 ∧ (8 : Int) < 10))
    {P3 : Int → qm → Int → qm → Prop}
    (l3 : ∀ (r1 : Int), ∀ (m1 : qm), P1 r1 m1 → q_in32 r1 → r1 = 0 → q_Ev yX7_owedBy cX7_owedBy 4 (some .int) 1 0 0 [(2, 5), (0, (m1 3 j))] (q_sh0, q_rb b, (q_up (q_up (q_up (q_up (q_up (q_up (q_up (q_up (q_up m1 153 0 j) 153 1 (m1 5 8)) 153 2 (q_oirem (m1 5 8) 12)) 153 3 (m1 8 j)) 153 4 (m1 10 j)) 153 5 (m1 2 j)) 153 6 (m1 3 j)) 153 7 (m1 4 j)) 153 8 (m1 9 j))) (qK (q_rb b) (P3 r1 m1)))
    (o4 : ∀ (r1 : Int), ∀ (m1 : qm), P1 r1 m1 → q_in32 r1 → r1 = 0 → ∀ (r3 : Int), ∀ (m3 : qm), P3 r1 m1 r3 m3 → q_in32 r3 → ((0 : Int) ≤ 9 ∧ (9 : Int) < 10))
    {P4 : Int → qm → Int → qm → Int → qm → Prop}
    (l5 : ∀ (r1 : Int), ∀ (m1 : qm), P1 r1 m1 → q_in32 r1 → r1 = 0 → ∀ (r3 : Int), ∀ (m3 : qm), P3 r1 m1 r3 m3 → q_in32 r3 → q_Ev yX2_worth cX2_worth 4 (some .int) 2 0 0 [(2, 149)] (q_sh0, q_rb b, (q_up m3 153 9 r3)) (qK (q_rb b) (P4 r1 m1 r3 m3)))
    (l6 : ∀ (r1 : Int), ∀ (m1 : qm), P1 r1 m1 → q_in32 r1 → r1 = 0 → ∀ (r3 : Int), ∀ (m3 : qm), P3 r1 m1 r3 m3 → q_in32 r3 → ∀ (r4 : Int), ∀ (m4 : qm), P4 r1 m1 r3 m3 r4 m4 → q_in32 r4 → Q r4 m4)
    (l7 : ∀ (r1 : Int), ∀ (m1 : qm), P1 r1 m1 → q_in32 r1 → r1 ≠ 0 → Q 1 m1) :
    q_At yX11_lawOf cX11_lawOf 3 (some .int) 3 0 0 (qK (q_rb b) Q) 0 [(2, 0), (0, j), (4, 0)] [] (q_sh0, q_rb b, mem) := by
  refine q_aload_n dX11_lawOf_0 rfl rfl ?_
  refine q_getR (ci := 11) (k := 10) dX11_lawOf_1 rfl (by decide) rfl tw359 (by decide) qs0 qw0_10 (by decide) ?_
  refine qx_invV (ci := 2) [] [(2, 149)] rfl qM_X2_isNone dX11_lawOf_4 tw645 rfl qs149 rfl rfl rfl rfl (l1) (fun r1 m1 p1 q1 => ?_)
  refine qx_if_eq (tgt := 12) dX11_lawOf_7 (by decide) (fun c2 => ?_) (fun c2 => ?_)
  · skip
    refine q_aload_n dX11_lawOf_12 rfl rfl ?_
    refine q_getR (ci := 11) (k := 10) dX11_lawOf_13 rfl (by decide) rfl tw359 (by decide) qs0 qw0_10 (by decide) ?_
    refine q_getR (ci := 2) (k := 3) dX11_lawOf_16 rfl (by decide) rfl tw260 (by decide) qs149 qw149_3 (by decide) ?_
    refine qx_astore_n (L' := [(2, 0), (0, j), (2, 153)]) dX11_lawOf_19 rfl rfl rfl rfl ?_
    refine q_aload_n dX11_lawOf_20 rfl rfl ?_
    refine qx_iconst dX11_lawOf_21 rfl rfl ?_
    refine q_iload_n dX11_lawOf_22 rfl rfl ?_
    refine q_iast dX11_lawOf_23 qs153 ((o2 r1 m1 p1 q1 c2).1).1 ((o2 r1 m1 p1 q1 c2).1).2 ?_
    refine q_aload_n dX11_lawOf_24 rfl rfl ?_
    refine qx_iconst dX11_lawOf_25 rfl rfl ?_
    refine q_aload_n dX11_lawOf_26 rfl rfl ?_
    refine q_getR (ci := 11) (k := 1) dX11_lawOf_27 rfl (by decide) rfl tw350 (by decide) qs0 qw0_1 (by decide) ?_
    refine qx_getI (ci := 7) (k := 8) (v := (m1 5 8)) dX11_lawOf_30 rfl rfl rfl tw103 rfl qs5 (q_up_c (by decide)) ?_
    refine q_iast dX11_lawOf_33 qs153 ((o2 r1 m1 p1 q1 c2).2.1).1 ((o2 r1 m1 p1 q1 c2).2.1).2 ?_
    refine q_aload_n dX11_lawOf_34 rfl rfl ?_
    refine qx_iconst dX11_lawOf_35 rfl rfl ?_
    refine q_aload_n dX11_lawOf_36 rfl rfl ?_
    refine q_getR (ci := 11) (k := 1) dX11_lawOf_37 rfl (by decide) rfl tw350 (by decide) qs0 qw0_1 (by decide) ?_
    refine qx_getI (ci := 7) (k := 8) (v := (m1 5 8)) dX11_lawOf_40 rfl rfl rfl tw103 rfl qs5 ((q_up_c (by decide)).trans (q_up_c (by decide))) ?_
    refine qx_bipush dX11_lawOf_43 rfl rfl ?_
    refine q_irem dX11_lawOf_45 (by decide) ?_
    refine q_iast dX11_lawOf_46 qs153 ((o2 r1 m1 p1 q1 c2).2.2.1).1 ((o2 r1 m1 p1 q1 c2).2.2.1).2 ?_
    refine q_aload_n dX11_lawOf_47 rfl rfl ?_
    refine qx_iconst dX11_lawOf_48 rfl rfl ?_
    refine q_aload_n dX11_lawOf_49 rfl rfl ?_
    refine q_getR (ci := 11) (k := 1) dX11_lawOf_50 rfl (by decide) rfl tw350 (by decide) qs0 qw0_1 (by decide) ?_
    refine q_getR (ci := 7) (k := 2) dX11_lawOf_53 rfl (by decide) rfl tw77 (by decide) qs5 qw5_2 (by decide) ?_
    refine q_iload_n dX11_lawOf_56 rfl rfl ?_
    refine qx_iald (v := (m1 8 j)) dX11_lawOf_57 qs8 (o2 r1 m1 p1 q1 c2).2.2.2.1 ((q_up_c (by decide)).trans ((q_up_c (by decide)).trans (q_up_c (by decide)))) ?_
    refine q_iast dX11_lawOf_58 qs153 ((o2 r1 m1 p1 q1 c2).2.2.2.2.1).1 ((o2 r1 m1 p1 q1 c2).2.2.2.2.1).2 ?_
    refine q_aload_n dX11_lawOf_59 rfl rfl ?_
    refine qx_iconst dX11_lawOf_60 rfl rfl ?_
    refine q_aload_n dX11_lawOf_61 rfl rfl ?_
    refine q_getR (ci := 11) (k := 1) dX11_lawOf_62 rfl (by decide) rfl tw350 (by decide) qs0 qw0_1 (by decide) ?_
    refine q_getR (ci := 7) (k := 4) dX11_lawOf_65 rfl (by decide) rfl tw87 (by decide) qs5 qw5_4 (by decide) ?_
    refine q_iload_n dX11_lawOf_68 rfl rfl ?_
    refine qx_iald (v := (m1 10 j)) dX11_lawOf_69 qs10 (o2 r1 m1 p1 q1 c2).2.2.2.1 ((q_up_c (by decide)).trans ((q_up_c (by decide)).trans ((q_up_c (by decide)).trans (q_up_c (by decide))))) ?_
    refine q_iast dX11_lawOf_70 qs153 ((o2 r1 m1 p1 q1 c2).2.2.2.2.2.1).1 ((o2 r1 m1 p1 q1 c2).2.2.2.2.2.1).2 ?_
    refine q_aload_n dX11_lawOf_71 rfl rfl ?_
    refine qx_iconst dX11_lawOf_72 rfl rfl ?_
    refine q_aload_n dX11_lawOf_73 rfl rfl ?_
    refine q_getR (ci := 11) (k := 0) dX11_lawOf_74 rfl (by decide) rfl tw349 (by decide) qs0 qw0_0 (by decide) ?_
    refine q_getR (ci := 9) (k := 0) dX11_lawOf_77 rfl (by decide) rfl tw39 (by decide) qs1 qw1_0 (by decide) ?_
    refine q_iload_n dX11_lawOf_80 rfl rfl ?_
    refine qx_iald (v := (m1 2 j)) dX11_lawOf_81 qs2 (o2 r1 m1 p1 q1 c2).2.2.2.1 ((q_up_c (by decide)).trans ((q_up_c (by decide)).trans ((q_up_c (by decide)).trans ((q_up_c (by decide)).trans (q_up_c (by decide)))))) ?_
    refine q_iast dX11_lawOf_82 qs153 ((o2 r1 m1 p1 q1 c2).2.2.2.2.2.2.1).1 ((o2 r1 m1 p1 q1 c2).2.2.2.2.2.2.1).2 ?_
    refine q_aload_n dX11_lawOf_83 rfl rfl ?_
    refine qx_bipush dX11_lawOf_84 rfl rfl ?_
    refine q_aload_n dX11_lawOf_86 rfl rfl ?_
    refine q_getR (ci := 11) (k := 0) dX11_lawOf_87 rfl (by decide) rfl tw349 (by decide) qs0 qw0_0 (by decide) ?_
    refine q_getR (ci := 9) (k := 1) dX11_lawOf_90 rfl (by decide) rfl tw43 (by decide) qs1 qw1_1 (by decide) ?_
    refine q_iload_n dX11_lawOf_93 rfl rfl ?_
    refine qx_iald (v := (m1 3 j)) dX11_lawOf_94 qs3 (o2 r1 m1 p1 q1 c2).2.2.2.1 ((q_up_c (by decide)).trans ((q_up_c (by decide)).trans ((q_up_c (by decide)).trans ((q_up_c (by decide)).trans ((q_up_c (by decide)).trans (q_up_c (by decide))))))) ?_
    refine q_iast dX11_lawOf_95 qs153 ((o2 r1 m1 p1 q1 c2).2.2.2.2.2.2.2.1).1 ((o2 r1 m1 p1 q1 c2).2.2.2.2.2.2.2.1).2 ?_
    refine q_aload_n dX11_lawOf_96 rfl rfl ?_
    refine qx_bipush dX11_lawOf_97 rfl rfl ?_
    refine q_aload_n dX11_lawOf_99 rfl rfl ?_
    refine q_getR (ci := 11) (k := 0) dX11_lawOf_100 rfl (by decide) rfl tw349 (by decide) qs0 qw0_0 (by decide) ?_
    refine q_getR (ci := 9) (k := 2) dX11_lawOf_103 rfl (by decide) rfl tw47 (by decide) qs1 qw1_2 (by decide) ?_
    refine q_iload_n dX11_lawOf_106 rfl rfl ?_
    refine qx_iald (v := (m1 4 j)) dX11_lawOf_107 qs4 (o2 r1 m1 p1 q1 c2).2.2.2.1 ((q_up_c (by decide)).trans ((q_up_c (by decide)).trans ((q_up_c (by decide)).trans ((q_up_c (by decide)).trans ((q_up_c (by decide)).trans ((q_up_c (by decide)).trans (q_up_c (by decide)))))))) ?_
    refine q_iast dX11_lawOf_108 qs153 ((o2 r1 m1 p1 q1 c2).2.2.2.2.2.2.2.2.1).1 ((o2 r1 m1 p1 q1 c2).2.2.2.2.2.2.2.2.1).2 ?_
    refine q_aload_n dX11_lawOf_109 rfl rfl ?_
    refine qx_bipush dX11_lawOf_110 rfl rfl ?_
    refine q_aload_n dX11_lawOf_112 rfl rfl ?_
    refine q_getR (ci := 11) (k := 1) dX11_lawOf_113 rfl (by decide) rfl tw350 (by decide) qs0 qw0_1 (by decide) ?_
    refine q_getR (ci := 7) (k := 3) dX11_lawOf_116 rfl (by decide) rfl tw82 (by decide) qs5 qw5_3 (by decide) ?_
    refine q_iload_n dX11_lawOf_119 rfl rfl ?_
    refine qx_iald (v := (m1 9 j)) dX11_lawOf_120 qs9 (o2 r1 m1 p1 q1 c2).2.2.2.1 ((q_up_c (by decide)).trans ((q_up_c (by decide)).trans ((q_up_c (by decide)).trans ((q_up_c (by decide)).trans ((q_up_c (by decide)).trans ((q_up_c (by decide)).trans ((q_up_c (by decide)).trans (q_up_c (by decide))))))))) ?_
    refine q_iast dX11_lawOf_121 qs153 ((o2 r1 m1 p1 q1 c2).2.2.2.2.2.2.2.2.2).1 ((o2 r1 m1 p1 q1 c2).2.2.2.2.2.2.2.2.2).2 ?_
    refine q_aload_n dX11_lawOf_122 rfl rfl ?_
    refine qx_bipush dX11_lawOf_123 rfl rfl ?_
    refine q_aload_n dX11_lawOf_125 rfl rfl ?_
    refine q_getR (ci := 11) (k := 1) dX11_lawOf_126 rfl (by decide) rfl tw350 (by decide) qs0 qw0_1 (by decide) ?_
    refine q_aload_n dX11_lawOf_129 rfl rfl ?_
    refine q_getR (ci := 11) (k := 0) dX11_lawOf_130 rfl (by decide) rfl tw349 (by decide) qs0 qw0_0 (by decide) ?_
    refine q_getR (ci := 9) (k := 1) dX11_lawOf_133 rfl (by decide) rfl tw43 (by decide) qs1 qw1_1 (by decide) ?_
    refine q_iload_n dX11_lawOf_136 rfl rfl ?_
    refine qx_iald (v := (m1 3 j)) dX11_lawOf_137 qs3 (o2 r1 m1 p1 q1 c2).2.2.2.1 ((q_up_c (by decide)).trans ((q_up_c (by decide)).trans ((q_up_c (by decide)).trans ((q_up_c (by decide)).trans ((q_up_c (by decide)).trans ((q_up_c (by decide)).trans ((q_up_c (by decide)).trans ((q_up_c (by decide)).trans (q_up_c (by decide)))))))))) ?_
    refine qx_invV (ci := 7) [(0, (m1 3 j))] [(0, (m1 3 j)), (2, 5), (0, 9), (2, 153)] rfl qM_X7_owedBy dX11_lawOf_138 tw649 rfl qs5 rfl rfl rfl rfl (l3 r1 m1 p1 q1 c2) (fun r3 m3 p3 q3 => ?_)
    refine q_iast dX11_lawOf_141 qs153 ((o4 r1 m1 p1 q1 c2 r3 m3 p3 q3)).1 ((o4 r1 m1 p1 q1 c2 r3 m3 p3 q3)).2 ?_
    refine q_aload_n dX11_lawOf_142 rfl rfl ?_
    refine q_getR (ci := 11) (k := 10) dX11_lawOf_143 rfl (by decide) rfl tw359 (by decide) qs0 qw0_10 (by decide) ?_
    refine qx_invV (ci := 2) [] [(2, 149)] rfl qM_X2_worth dX11_lawOf_146 tw653 rfl qs149 rfl rfl rfl rfl (l5 r1 m1 p1 q1 c2 r3 m3 p3 q3) (fun r4 m4 p4 q4 => ?_)
    exact q_iret dX11_lawOf_149 (qK_i (l6 r1 m1 p1 q1 c2 r3 m3 p3 q3 r4 m4 p4 q4))
  · skip
    refine qx_iconst dX11_lawOf_10 rfl rfl ?_
    exact q_iret dX11_lawOf_11 (qK_i (l7 r1 m1 p1 q1 c2))
