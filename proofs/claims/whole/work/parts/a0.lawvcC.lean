theorem dX2_isNone_0 : decode cX2_isNone 0 = .ok (.aload_n 0, 1) := by decide +kernel
theorem dX2_isNone_1 : decode cX2_isNone 1 = .ok (.getfield 24, 3) := by decide +kernel
theorem dX2_isNone_4 : decode cX2_isNone 4 = .ok (.ifCond .ne 7, 3) := by decide +kernel
theorem dX2_isNone_7 : decode cX2_isNone 7 = .ok (.iconst 1, 1) := by decide +kernel
theorem dX2_isNone_8 : decode cX2_isNone 8 = .ok (.goto 4, 3) := by decide +kernel
theorem dX2_isNone_11 : decode cX2_isNone 11 = .ok (.iconst 0, 1) := by decide +kernel
theorem dX2_isNone_12 : decode cX2_isNone 12 = .ok (.ireturn, 1) := by decide +kernel
theorem bkX2_isNone_0 {b : Int} {mem : qm} {Q : Int → qm → Prop}
    (l1 : (mem 149 5) ≠ 0 → Q 0 mem)
    (l2 : (mem 149 5) = 0 → Q 1 mem) :
    q_At yX2_isNone cX2_isNone 1 (some .boolean) 1 0 0 (qK (q_rb b) Q) 0 [(2, 149)] [] (q_sh0, q_rb b, mem) := by
  refine q_aload_n dX2_isNone_0 rfl rfl ?_
  refine qx_getI (ci := 2) (k := 5) (v := (mem 149 5)) dX2_isNone_1 rfl rfl rfl tw262 rfl qs149 rfl ?_
  refine qx_if_ne (tgt := 11) dX2_isNone_4 (by decide) (fun c1 => ?_) (fun c1 => ?_)
  · skip
    refine qx_iconst dX2_isNone_11 rfl rfl ?_
    exact q_zret dX2_isNone_12 (by decide) (qK_i (l1 c1))
  · skip
    refine qx_iconst dX2_isNone_7 rfl rfl ?_
    refine q_goto (tgt := 12) dX2_isNone_8 (by decide) ?_
    exact q_zret dX2_isNone_12 (by decide) (qK_i (l2 c1))
theorem dX2_take_0 : decode cX2_take 0 = .ok (.aload_n 0, 1) := by decide +kernel
theorem dX2_take_1 : decode cX2_take 1 = .ok (.getfield 9, 3) := by decide +kernel
theorem dX2_take_4 : decode cX2_take 4 = .ok (.iconst 0, 1) := by decide +kernel
theorem dX2_take_5 : decode cX2_take 5 = .ok (.aload_n 0, 1) := by decide +kernel
theorem dX2_take_6 : decode cX2_take 6 = .ok (.getfield 15, 3) := by decide +kernel
theorem dX2_take_9 : decode cX2_take 9 = .ok (.iconst 0, 1) := by decide +kernel
theorem dX2_take_10 : decode cX2_take 10 = .ok (.bipush 40, 2) := by decide +kernel
theorem dX2_take_12 : decode cX2_take 12 = .ok (.invokestatic 46, 3) := by decide +kernel
theorem dX2_take_15 : decode cX2_take 15 = .ok (.aload_n 0, 1) := by decide +kernel
theorem dX2_take_16 : decode cX2_take 16 = .ok (.aload_n 0, 1) := by decide +kernel
theorem dX2_take_17 : decode cX2_take 17 = .ok (.getfield 28, 3) := by decide +kernel
theorem dX2_take_20 : decode cX2_take 20 = .ok (.putfield 24, 3) := by decide +kernel
theorem dX2_take_23 : decode cX2_take 23 = .ok (.return_, 1) := by decide +kernel
theorem bkX2_take_0 {b : Int} {mem : qm} {Q : Int → qm → Prop}
    (l1 : Q 0 (q_up (q_cp mem 150 0 151 0 40) 149 5 (mem 149 4))) :
    q_At yX2_take cX2_take 1 none 1 0 0 (qK (q_rb b) Q) 0 [(2, 149)] [] (q_sh0, q_rb b, mem) := by
  refine q_aload_n dX2_take_0 rfl rfl ?_
  refine q_getR (ci := 2) (k := 0) dX2_take_1 rfl (by decide) rfl tw256 (by decide) qs149 qw149_0 (by decide) ?_
  refine qx_iconst dX2_take_4 rfl rfl ?_
  refine q_aload_n dX2_take_5 rfl rfl ?_
  refine q_getR (ci := 2) (k := 1) dX2_take_6 rfl (by decide) rfl tw257 (by decide) qs149 qw149_1 (by decide) ?_
  refine qx_iconst dX2_take_9 rfl rfl ?_
  refine qx_bipush dX2_take_10 rfl rfl ?_
  refine q_copy dX2_take_12 tw571 tw423 tw422 tw14 (by decide) (Nat.le_of_ble_eq_true rfl) qs150 qs151 (by decide) (by decide) (by decide) (by decide) (by decide) ?_
  refine q_aload_n dX2_take_15 rfl rfl ?_
  refine q_aload_n dX2_take_16 rfl rfl ?_
  refine qx_getI (ci := 2) (k := 4) (v := (mem 149 4)) dX2_take_17 rfl rfl rfl tw261 rfl qs149 (q_cp_c (by decide)) ?_
  refine q_putI (ci := 2) (k := 5) (kI := 5) (ty := .int) dX2_take_20 rfl (by decide) rfl tw262 rfl rfl rfl (fun _ => ⟨rfl, rfl⟩) qs149 ?_
  exact q_vret dX2_take_23 (qK_i (l1))
theorem dX2_write_0 : decode cX2_write 0 = .ok (.aload_n 0, 1) := by decide +kernel
theorem dX2_write_1 : decode cX2_write 1 = .ok (.getfield 28, 3) := by decide +kernel
theorem dX2_write_4 : decode cX2_write 4 = .ok (.bipush 40, 2) := by decide +kernel
theorem dX2_write_6 : decode cX2_write 6 = .ok (.if_icmp .ge 23, 3) := by decide +kernel
theorem dX2_write_9 : decode cX2_write 9 = .ok (.aload_n 0, 1) := by decide +kernel
theorem dX2_write_10 : decode cX2_write 10 = .ok (.getfield 9, 3) := by decide +kernel
theorem dX2_write_13 : decode cX2_write 13 = .ok (.aload_n 0, 1) := by decide +kernel
theorem dX2_write_14 : decode cX2_write 14 = .ok (.getfield 28, 3) := by decide +kernel
theorem dX2_write_17 : decode cX2_write 17 = .ok (.iload_n 1, 1) := by decide +kernel
theorem dX2_write_18 : decode cX2_write 18 = .ok (.iastore, 1) := by decide +kernel
theorem dX2_write_19 : decode cX2_write 19 = .ok (.aload_n 0, 1) := by decide +kernel
theorem dX2_write_20 : decode cX2_write 20 = .ok (.dup, 1) := by decide +kernel
theorem dX2_write_21 : decode cX2_write 21 = .ok (.getfield 28, 3) := by decide +kernel
theorem dX2_write_24 : decode cX2_write 24 = .ok (.iconst 1, 1) := by decide +kernel
theorem dX2_write_25 : decode cX2_write 25 = .ok (.iadd, 1) := by decide +kernel
theorem dX2_write_26 : decode cX2_write 26 = .ok (.putfield 28, 3) := by decide +kernel
theorem dX2_write_29 : decode cX2_write 29 = .ok (.return_, 1) := by decide +kernel
theorem bkX2_write_0 {b : Int} {mem : qm} {Q : Int → qm → Prop}
    {v : Int}
    (l1 : 40 ≤ (mem 149 4) → Q 0 mem)
    (o2 : (mem 149 4) < 40 → (0 ≤ (mem 149 4) ∧ (mem 149 4) < 40) ∧ q_in32 ((mem 149 4) + 1))
    (l3 : (mem 149 4) < 40 → Q 0 (q_up (q_up mem 150 (mem 149 4) v) 149 4 ((mem 149 4) + 1))) :
    q_At yX2_write cX2_write 2 none 1 0 0 (qK (q_rb b) Q) 0 [(2, 149), (0, v)] [] (q_sh0, q_rb b, mem) := by
  refine q_aload_n dX2_write_0 rfl rfl ?_
  refine qx_getI (ci := 2) (k := 4) (v := (mem 149 4)) dX2_write_1 rfl rfl rfl tw261 rfl qs149 rfl ?_
  refine qx_bipush dX2_write_4 rfl rfl ?_
  refine qx_icmp_ge (tgt := 29) dX2_write_6 (by decide) (fun c1 => ?_) (fun c1 => ?_)
  · skip
    exact q_vret dX2_write_29 (qK_i (l1 c1))
  · skip
    refine q_aload_n dX2_write_9 rfl rfl ?_
    refine q_getR (ci := 2) (k := 0) dX2_write_10 rfl (by decide) rfl tw256 (by decide) qs149 qw149_0 (by decide) ?_
    refine q_aload_n dX2_write_13 rfl rfl ?_
    refine qx_getI (ci := 2) (k := 4) (v := (mem 149 4)) dX2_write_14 rfl rfl rfl tw261 rfl qs149 rfl ?_
    refine q_iload_n dX2_write_17 rfl rfl ?_
    refine q_iast dX2_write_18 qs150 ((o2 c1).1).1 ((o2 c1).1).2 ?_
    refine q_aload_n dX2_write_19 rfl rfl ?_
    refine q_dup dX2_write_20 (fun h => by cases h) ?_
    refine qx_getI (ci := 2) (k := 4) (v := (mem 149 4)) dX2_write_21 rfl rfl rfl tw261 rfl qs149 (q_up_c (by decide)) ?_
    refine qx_iconst dX2_write_24 rfl rfl ?_
    refine qx_iadd dX2_write_25 (o2 c1).2 ?_
    refine q_putI (ci := 2) (k := 4) (kI := 4) (ty := .int) dX2_write_26 rfl (by decide) rfl tw261 rfl rfl rfl (fun _ => ⟨rfl, rfl⟩) qs149 ?_
    exact q_vret dX2_write_29 (qK_i (l3 c1))
theorem dX2_readLetter_0 : decode cX2_readLetter 0 = .ok (.iconst 0, 1) := by decide +kernel
theorem dX2_readLetter_1 : decode cX2_readLetter 1 = .ok (.istore_n 2, 1) := by decide +kernel
theorem dX2_readLetter_2 : decode cX2_readLetter 2 = .ok (.iload_n 2, 1) := by decide +kernel
theorem dX2_readLetter_3 : decode cX2_readLetter 3 = .ok (.getstatic 92, 3) := by decide +kernel
theorem dX2_readLetter_6 : decode cX2_readLetter 6 = .ok (.arraylength, 1) := by decide +kernel
theorem dX2_readLetter_7 : decode cX2_readLetter 7 = .ok (.if_icmp .ge 31, 3) := by decide +kernel
theorem dX2_readLetter_10 : decode cX2_readLetter 10 = .ok (.aload_n 1, 1) := by decide +kernel
theorem dX2_readLetter_11 : decode cX2_readLetter 11 = .ok (.getstatic 92, 3) := by decide +kernel
theorem dX2_readLetter_14 : decode cX2_readLetter 14 = .ok (.iload_n 2, 1) := by decide +kernel
theorem dX2_readLetter_15 : decode cX2_readLetter 15 = .ok (.caload, 1) := by decide +kernel
theorem dX2_readLetter_16 : decode cX2_readLetter 16 = .ok (.invokevirtual 72, 3) := by decide +kernel
theorem dX2_readLetter_19 : decode cX2_readLetter 19 = .ok (.ifCond .eq 13, 3) := by decide +kernel
theorem dX2_readLetter_22 : decode cX2_readLetter 22 = .ok (.aload_n 0, 1) := by decide +kernel
theorem dX2_readLetter_23 : decode cX2_readLetter 23 = .ok (.sipush 1000, 3) := by decide +kernel
theorem dX2_readLetter_26 : decode cX2_readLetter 26 = .ok (.iload_n 2, 1) := by decide +kernel
theorem dX2_readLetter_27 : decode cX2_readLetter 27 = .ok (.iadd, 1) := by decide +kernel
theorem dX2_readLetter_28 : decode cX2_readLetter 28 = .ok (.invokevirtual 63, 3) := by decide +kernel
theorem dX2_readLetter_31 : decode cX2_readLetter 31 = .ok (.return_, 1) := by decide +kernel
theorem dX2_readLetter_32 : decode cX2_readLetter 32 = .ok (.iinc 2 1, 3) := by decide +kernel
theorem dX2_readLetter_35 : decode cX2_readLetter 35 = .ok (.goto (-33), 3) := by decide +kernel
theorem dX2_readLetter_38 : decode cX2_readLetter 38 = .ok (.aload_n 1, 1) := by decide +kernel
theorem dX2_readLetter_39 : decode cX2_readLetter 39 = .ok (.invokevirtual 96, 3) := by decide +kernel
theorem dX2_readLetter_42 : decode cX2_readLetter 42 = .ok (.return_, 1) := by decide +kernel
theorem bkX2_readLetter_0 {b : Int} {mem : qm} {Q : Int → qm → Prop}
    (l1 : q_At yX2_readLetter cX2_readLetter 3 none 3 0 0 (qK (q_rb b) Q) 2 [(2, 149), (2, 145), (0, 0)] [] (q_sh0, q_rb b, mem)) :
    q_At yX2_readLetter cX2_readLetter 3 none 3 0 0 (qK (q_rb b) Q) 0 [(2, 149), (2, 145), (4, 0)] [] (q_sh0, q_rb b, mem) := by
  refine qx_iconst dX2_readLetter_0 rfl rfl ?_
  refine qx_istore_n (L' := [(2, 149), (2, 145), (0, 0)]) dX2_readLetter_1 rfl rfl rfl rfl ?_
  exact l1
theorem bkX2_readLetter_2 {b : Int} {mem : qm} {Q : Int → qm → Prop}
    {v2 : Int}
    {P2 : Int → qm → Prop}
    (l1 : 10 ≤ v2 → q_Ev yX6_failHere cX6_failHere 1 none 2 0 0 [(2, 145)] (q_sh0, q_rb b, mem) (qK (q_rb b) (P2)))
    (l2 : 10 ≤ v2 → ∀ (r2 : Int), ∀ (m2 : qm), P2 r2 m2 → q_in32 r2 → Q 0 m2)
    (o3 : v2 < 10 → (0 ≤ v2 ∧ v2 < 10))
    {P3 : Int → qm → Prop}
    (l4 : v2 < 10 → q_Ev yX6_skip cX6_skip 2 (some .boolean) 2 0 0 [(2, 145), (0, (q_let (v2).toNat))] (q_sh0, q_rb b, mem) (qK (q_rb b) (P3)))
    (o5 : v2 < 10 → ∀ (r3 : Int), ∀ (m3 : qm), P3 r3 m3 → q_in32 r3 → r3 = 0 → q_in32 (v2 + 1))
    (l6 : v2 < 10 → ∀ (r3 : Int), ∀ (m3 : qm), P3 r3 m3 → q_in32 r3 → r3 = 0 → q_At yX2_readLetter cX2_readLetter 3 none 3 0 0 (qK (q_rb b) Q) 2 [(2, 149), (2, 145), (0, (v2 + 1))] [] (q_sh0, q_rb b, m3))
    (o7 : v2 < 10 → ∀ (r3 : Int), ∀ (m3 : qm), P3 r3 m3 → q_in32 r3 → r3 ≠ 0 → q_in32 (1000 + v2))
    {P5 : Int → qm → Int → qm → Prop}
    (l8 : v2 < 10 → ∀ (r3 : Int), ∀ (m3 : qm), P3 r3 m3 → q_in32 r3 → r3 ≠ 0 → q_Ev yX2_write cX2_write 2 none 1 0 0 [(2, 149), (0, (1000 + v2))] (q_sh0, q_rb b, m3) (qK (q_rb b) (P5 r3 m3)))
    (l9 : v2 < 10 → ∀ (r3 : Int), ∀ (m3 : qm), P3 r3 m3 → q_in32 r3 → r3 ≠ 0 → ∀ (r5 : Int), ∀ (m5 : qm), P5 r3 m3 r5 m5 → q_in32 r5 → Q 0 m5) :
    q_At yX2_readLetter cX2_readLetter 3 none 3 0 0 (qK (q_rb b) Q) 2 [(2, 149), (2, 145), (0, v2)] [] (q_sh0, q_rb b, mem) := by
  refine q_iload_n dX2_readLetter_2 rfl rfl ?_
  refine q_letlen dX2_readLetter_3 tw555 dX2_readLetter_6 ?_
  refine qx_icmp_ge (tgt := 38) dX2_readLetter_7 (by decide) (fun c1 => ?_) (fun c1 => ?_)
  · skip
    refine q_aload_n dX2_readLetter_38 rfl rfl ?_
    refine qx_invV (ci := 6) [] [(2, 145)] rfl qM_X6_failHere dX2_readLetter_39 tw557 rfl qs145 rfl rfl rfl rfl (l1 c1) (fun r2 m2 p2 q2 => ?_)
    exact q_vret dX2_readLetter_42 (qK_i (l2 c1 r2 m2 p2 q2))
  · skip
    refine q_aload_n dX2_readLetter_10 rfl rfl ?_
    refine q_letld dX2_readLetter_11 tw555 dX2_readLetter_14 rfl rfl dX2_readLetter_15 ((o3 c1)).1 ((o3 c1)).2 ?_
    refine qx_invV (ci := 6) [(0, (q_let (v2).toNat))] [(0, (q_let (v2).toNat)), (2, 145)] rfl qM_X6_skip dX2_readLetter_16 tw539 rfl qs145 rfl rfl rfl rfl (l4 c1) (fun r3 m3 p3 q3 => ?_)
    refine qx_if_eq (tgt := 32) dX2_readLetter_19 (by decide) (fun c4 => ?_) (fun c4 => ?_)
    · skip
      refine qx_iinc (L' := [(2, 149), (2, 145), (0, (v2 + 1))]) dX2_readLetter_32 rfl rfl rfl (o5 c1 r3 m3 p3 q3 c4) rfl ?_
      refine q_goto (tgt := 2) dX2_readLetter_35 (by decide) ?_
      exact l6 c1 r3 m3 p3 q3 c4
    · skip
      refine q_aload_n dX2_readLetter_22 rfl rfl ?_
      refine qx_sipush dX2_readLetter_23 rfl rfl ?_
      refine q_iload_n dX2_readLetter_26 rfl rfl ?_
      refine qx_iadd dX2_readLetter_27 (o7 c1 r3 m3 p3 q3 c4) ?_
      refine qx_invV (ci := 2) [(0, (1000 + v2))] [(0, (1000 + v2)), (2, 149)] rfl qM_X2_write dX2_readLetter_28 tw546 rfl qs149 rfl rfl rfl rfl (l8 c1 r3 m3 p3 q3 c4) (fun r5 m5 p5 q5 => ?_)
      exact q_vret dX2_readLetter_31 (qK_i (l9 c1 r3 m3 p3 q3 c4 r5 m5 p5 q5))
theorem dX2_readThing_0 : decode cX2_readThing 0 = .ok (.aload_n 1, 1) := by decide +kernel
theorem dX2_readThing_1 : decode cX2_readThing 1 = .ok (.invokevirtual 78, 3) := by decide +kernel
theorem dX2_readThing_4 : decode cX2_readThing 4 = .ok (.ifCond .eq 15, 3) := by decide +kernel
theorem dX2_readThing_7 : decode cX2_readThing 7 = .ok (.aload_n 0, 1) := by decide +kernel
theorem dX2_readThing_8 : decode cX2_readThing 8 = .ok (.aload_n 1, 1) := by decide +kernel
theorem dX2_readThing_9 : decode cX2_readThing 9 = .ok (.iconst 3, 1) := by decide +kernel
theorem dX2_readThing_10 : decode cX2_readThing 10 = .ok (.invokevirtual 82, 3) := by decide +kernel
theorem dX2_readThing_13 : decode cX2_readThing 13 = .ok (.invokevirtual 63, 3) := by decide +kernel
theorem dX2_readThing_16 : decode cX2_readThing 16 = .ok (.goto 39, 3) := by decide +kernel
theorem dX2_readThing_19 : decode cX2_readThing 19 = .ok (.iload_n 2, 1) := by decide +kernel
theorem dX2_readThing_20 : decode cX2_readThing 20 = .ok (.iconst 4, 1) := by decide +kernel
theorem dX2_readThing_21 : decode cX2_readThing 21 = .ok (.if_icmp .ge 29, 3) := by decide +kernel
theorem dX2_readThing_24 : decode cX2_readThing 24 = .ok (.aload_n 1, 1) := by decide +kernel
theorem dX2_readThing_25 : decode cX2_readThing 25 = .ok (.bipush 40, 2) := by decide +kernel
theorem dX2_readThing_27 : decode cX2_readThing 27 = .ok (.invokevirtual 72, 3) := by decide +kernel
theorem dX2_readThing_30 : decode cX2_readThing 30 = .ok (.ifCond .eq 20, 3) := by decide +kernel
theorem dX2_readThing_33 : decode cX2_readThing 33 = .ok (.aload_n 0, 1) := by decide +kernel
theorem dX2_readThing_34 : decode cX2_readThing 34 = .ok (.aload_n 1, 1) := by decide +kernel
theorem dX2_readThing_35 : decode cX2_readThing 35 = .ok (.iload_n 2, 1) := by decide +kernel
theorem dX2_readThing_36 : decode cX2_readThing 36 = .ok (.iconst 1, 1) := by decide +kernel
theorem dX2_readThing_37 : decode cX2_readThing 37 = .ok (.iadd, 1) := by decide +kernel
theorem dX2_readThing_38 : decode cX2_readThing 38 = .ok (.invokevirtual 38, 3) := by decide +kernel
theorem dX2_readThing_41 : decode cX2_readThing 41 = .ok (.aload_n 1, 1) := by decide +kernel
theorem dX2_readThing_42 : decode cX2_readThing 42 = .ok (.bipush 41, 2) := by decide +kernel
theorem dX2_readThing_44 : decode cX2_readThing 44 = .ok (.invokevirtual 85, 3) := by decide +kernel
theorem dX2_readThing_47 : decode cX2_readThing 47 = .ok (.goto 8, 3) := by decide +kernel
theorem dX2_readThing_50 : decode cX2_readThing 50 = .ok (.aload_n 0, 1) := by decide +kernel
theorem dX2_readThing_51 : decode cX2_readThing 51 = .ok (.aload_n 1, 1) := by decide +kernel
theorem dX2_readThing_52 : decode cX2_readThing 52 = .ok (.invokevirtual 88, 3) := by decide +kernel
theorem dX2_readThing_55 : decode cX2_readThing 55 = .ok (.return_, 1) := by decide +kernel
theorem bkX2_readThing_0 {b : Int} {mem : qm} {Q : Int → qm → Prop}
    {w : Int}
    {dd : Nat}
    (hd9 : 10 ≤ dd)
    {P1 : Int → qm → Prop}
    (l1 : q_Ev yX6_seesDigit cX6_seesDigit 2 (some .boolean) 2 0 0 [(2, 145)] (q_sh0, q_rb b, mem) (qK (q_rb b) (P1)))
    {P4 : Int → qm → Int → qm → Prop}
    (l2 : ∀ (r1 : Int), ∀ (m1 : qm), P1 r1 m1 → q_in32 r1 → r1 = 0 → 4 ≤ w → q_Ev yX2_readLetter cX2_readLetter 3 none 3 0 0 [(2, 149), (2, 145)] (q_sh0, q_rb b, m1) (qK (q_rb b) (P4 r1 m1)))
    (l3 : ∀ (r1 : Int), ∀ (m1 : qm), P1 r1 m1 → q_in32 r1 → r1 = 0 → 4 ≤ w → ∀ (r4 : Int), ∀ (m4 : qm), P4 r1 m1 r4 m4 → q_in32 r4 → Q 0 m4)
    {P5 : Int → qm → Int → qm → Prop}
    (l4 : ∀ (r1 : Int), ∀ (m1 : qm), P1 r1 m1 → q_in32 r1 → r1 = 0 → w < 4 → q_Ev yX6_skip cX6_skip 2 (some .boolean) 2 0 0 [(2, 145), (0, 40)] (q_sh0, q_rb b, m1) (qK (q_rb b) (P5 r1 m1)))
    {P7 : Int → qm → Int → qm → Int → qm → Prop}
    (l5 : ∀ (r1 : Int), ∀ (m1 : qm), P1 r1 m1 → q_in32 r1 → r1 = 0 → w < 4 → ∀ (r5 : Int), ∀ (m5 : qm), P5 r1 m1 r5 m5 → q_in32 r5 → r5 = 0 → q_Ev yX2_readLetter cX2_readLetter 3 none 3 0 0 [(2, 149), (2, 145)] (q_sh0, q_rb b, m5) (qK (q_rb b) (P7 r1 m1 r5 m5)))
    (l6 : ∀ (r1 : Int), ∀ (m1 : qm), P1 r1 m1 → q_in32 r1 → r1 = 0 → w < 4 → ∀ (r5 : Int), ∀ (m5 : qm), P5 r1 m1 r5 m5 → q_in32 r5 → r5 = 0 → ∀ (r7 : Int), ∀ (m7 : qm), P7 r1 m1 r5 m5 r7 m7 → q_in32 r7 → Q 0 m7)
    (o7 : ∀ (r1 : Int), ∀ (m1 : qm), P1 r1 m1 → q_in32 r1 → r1 = 0 → w < 4 → ∀ (r5 : Int), ∀ (m5 : qm), P5 r1 m1 r5 m5 → q_in32 r5 → r5 ≠ 0 → q_in32 (w + 1))
    {P8 : Int → qm → Int → qm → Int → qm → Prop}
    (l8 : ∀ (r1 : Int), ∀ (m1 : qm), P1 r1 m1 → q_in32 r1 → r1 = 0 → w < 4 → ∀ (r5 : Int), ∀ (m5 : qm), P5 r1 m1 r5 m5 → q_in32 r5 → r5 ≠ 0 → q_Ev yX2_readComparison cX2_readComparison 4 none dd 0 0 [(2, 149), (2, 145), (0, (w + 1))] (q_sh0, q_rb b, m5) (qK (q_rb b) (P8 r1 m1 r5 m5)))
    {P9 : Int → qm → Int → qm → Int → qm → Int → qm → Prop}
    (l9 : ∀ (r1 : Int), ∀ (m1 : qm), P1 r1 m1 → q_in32 r1 → r1 = 0 → w < 4 → ∀ (r5 : Int), ∀ (m5 : qm), P5 r1 m1 r5 m5 → q_in32 r5 → r5 ≠ 0 → ∀ (r8 : Int), ∀ (m8 : qm), P8 r1 m1 r5 m5 r8 m8 → q_in32 r8 → q_Ev yX6_need cX6_need 2 none 3 0 0 [(2, 145), (0, 41)] (q_sh0, q_rb b, m8) (qK (q_rb b) (P9 r1 m1 r5 m5 r8 m8)))
    (l10 : ∀ (r1 : Int), ∀ (m1 : qm), P1 r1 m1 → q_in32 r1 → r1 = 0 → w < 4 → ∀ (r5 : Int), ∀ (m5 : qm), P5 r1 m1 r5 m5 → q_in32 r5 → r5 ≠ 0 → ∀ (r8 : Int), ∀ (m8 : qm), P8 r1 m1 r5 m5 r8 m8 → q_in32 r8 → ∀ (r9 : Int), ∀ (m9 : qm), P9 r1 m1 r5 m5 r8 m8 r9 m9 → q_in32 r9 → Q 0 m9)
    {P10 : Int → qm → Int → qm → Prop}
    (l11 : ∀ (r1 : Int), ∀ (m1 : qm), P1 r1 m1 → q_in32 r1 → r1 ≠ 0 → q_Ev yX6_number cX6_number 4 (some .int) 3 0 0 [(2, 145), (0, 3)] (q_sh0, q_rb b, m1) (qK (q_rb b) (P10 r1 m1)))
    {P11 : Int → qm → Int → qm → Int → qm → Prop}
    (l12 : ∀ (r1 : Int), ∀ (m1 : qm), P1 r1 m1 → q_in32 r1 → r1 ≠ 0 → ∀ (r10 : Int), ∀ (m10 : qm), P10 r1 m1 r10 m10 → q_in32 r10 → q_Ev yX2_write cX2_write 2 none 1 0 0 [(2, 149), (0, r10)] (q_sh0, q_rb b, m10) (qK (q_rb b) (P11 r1 m1 r10 m10)))
    (l13 : ∀ (r1 : Int), ∀ (m1 : qm), P1 r1 m1 → q_in32 r1 → r1 ≠ 0 → ∀ (r10 : Int), ∀ (m10 : qm), P10 r1 m1 r10 m10 → q_in32 r10 → ∀ (r11 : Int), ∀ (m11 : qm), P11 r1 m1 r10 m10 r11 m11 → q_in32 r11 → Q 0 m11) :
    q_At yX2_readThing cX2_readThing 3 none (dd + 1) 0 0 (qK (q_rb b) Q) 0 [(2, 149), (2, 145), (0, w)] [] (q_sh0, q_rb b, mem) := by
  refine q_aload_n dX2_readThing_0 rfl rfl ?_
  refine qx_invV (ci := 6) [] [(2, 145)] rfl qM_X6_seesDigit dX2_readThing_1 tw544 rfl qs145 rfl (Nat.ble_eq_true_of_le (by omega)) rfl rfl (l1) (fun r1 m1 p1 q1 => ?_)
  refine qx_if_eq (tgt := 19) dX2_readThing_4 (by decide) (fun c2 => ?_) (fun c2 => ?_)
  · skip
    refine q_iload_n dX2_readThing_19 rfl rfl ?_
    refine qx_iconst dX2_readThing_20 rfl rfl ?_
    refine qx_icmp_ge (tgt := 50) dX2_readThing_21 (by decide) (fun c3 => ?_) (fun c3 => ?_)
    · skip
      refine q_aload_n dX2_readThing_50 rfl rfl ?_
      refine q_aload_n dX2_readThing_51 rfl rfl ?_
      refine qx_invV (ci := 2) [(2, 145)] [(2, 145), (2, 149)] rfl qM_X2_readLetter dX2_readThing_52 tw551 rfl qs149 rfl (Nat.ble_eq_true_of_le (by omega)) rfl rfl (l2 r1 m1 p1 q1 c2 c3) (fun r4 m4 p4 q4 => ?_)
      exact q_vret dX2_readThing_55 (qK_i (l3 r1 m1 p1 q1 c2 c3 r4 m4 p4 q4))
    · skip
      refine q_aload_n dX2_readThing_24 rfl rfl ?_
      refine qx_bipush dX2_readThing_25 rfl rfl ?_
      refine qx_invV (ci := 6) [(0, 40)] [(0, 40), (2, 145)] rfl qM_X6_skip dX2_readThing_27 tw539 rfl qs145 rfl (Nat.ble_eq_true_of_le (by omega)) rfl rfl (l4 r1 m1 p1 q1 c2 c3) (fun r5 m5 p5 q5 => ?_)
      refine qx_if_eq (tgt := 50) dX2_readThing_30 (by decide) (fun c6 => ?_) (fun c6 => ?_)
      · skip
        refine q_aload_n dX2_readThing_50 rfl rfl ?_
        refine q_aload_n dX2_readThing_51 rfl rfl ?_
        refine qx_invV (ci := 2) [(2, 145)] [(2, 145), (2, 149)] rfl qM_X2_readLetter dX2_readThing_52 tw551 rfl qs149 rfl (Nat.ble_eq_true_of_le (by omega)) rfl rfl (l5 r1 m1 p1 q1 c2 c3 r5 m5 p5 q5 c6) (fun r7 m7 p7 q7 => ?_)
        exact q_vret dX2_readThing_55 (qK_i (l6 r1 m1 p1 q1 c2 c3 r5 m5 p5 q5 c6 r7 m7 p7 q7))
      · skip
        refine q_aload_n dX2_readThing_33 rfl rfl ?_
        refine q_aload_n dX2_readThing_34 rfl rfl ?_
        refine q_iload_n dX2_readThing_35 rfl rfl ?_
        refine qx_iconst dX2_readThing_36 rfl rfl ?_
        refine qx_iadd dX2_readThing_37 (o7 r1 m1 p1 q1 c2 c3 r5 m5 p5 q5 c6) ?_
        refine qx_invV (ci := 2) [(2, 145), (0, (w + 1))] [(0, (w + 1)), (2, 145), (2, 149)] rfl qM_X2_readComparison dX2_readThing_38 tw523 rfl qs149 rfl (Nat.ble_eq_true_of_le (by omega)) rfl rfl (l8 r1 m1 p1 q1 c2 c3 r5 m5 p5 q5 c6) (fun r8 m8 p8 q8 => ?_)
        refine q_aload_n dX2_readThing_41 rfl rfl ?_
        refine qx_bipush dX2_readThing_42 rfl rfl ?_
        refine qx_invV (ci := 6) [(0, 41)] [(0, 41), (2, 145)] rfl qM_X6_need dX2_readThing_44 tw550 rfl qs145 rfl (Nat.ble_eq_true_of_le (by omega)) rfl rfl (l9 r1 m1 p1 q1 c2 c3 r5 m5 p5 q5 c6 r8 m8 p8 q8) (fun r9 m9 p9 q9 => ?_)
        refine q_goto (tgt := 55) dX2_readThing_47 (by decide) ?_
        exact q_vret dX2_readThing_55 (qK_i (l10 r1 m1 p1 q1 c2 c3 r5 m5 p5 q5 c6 r8 m8 p8 q8 r9 m9 p9 q9))
  · skip
    refine q_aload_n dX2_readThing_7 rfl rfl ?_
    refine q_aload_n dX2_readThing_8 rfl rfl ?_
    refine qx_iconst dX2_readThing_9 rfl rfl ?_
    refine qx_invV (ci := 6) [(0, 3)] [(0, 3), (2, 145), (2, 149)] rfl qM_X6_number dX2_readThing_10 tw545 rfl qs145 rfl (Nat.ble_eq_true_of_le (by omega)) rfl rfl (l11 r1 m1 p1 q1 c2) (fun r10 m10 p10 q10 => ?_)
    refine qx_invV (ci := 2) [(0, r10)] [(0, r10), (2, 149)] rfl qM_X2_write dX2_readThing_13 tw546 rfl qs149 rfl (Nat.ble_eq_true_of_le (by omega)) rfl rfl (l12 r1 m1 p1 q1 c2 r10 m10 p10 q10) (fun r11 m11 p11 q11 => ?_)
    refine q_goto (tgt := 55) dX2_readThing_16 (by decide) ?_
    exact q_vret dX2_readThing_55 (qK_i (l13 r1 m1 p1 q1 c2 r10 m10 p10 q10 r11 m11 p11 q11))
theorem dX2_readSigned_0 : decode cX2_readSigned 0 = .ok (.iconst 0, 1) := by decide +kernel
theorem dX2_readSigned_1 : decode cX2_readSigned 1 = .ok (.istore_n 3, 1) := by decide +kernel
theorem dX2_readSigned_2 : decode cX2_readSigned 2 = .ok (.iconst 0, 1) := by decide +kernel
theorem dX2_readSigned_3 : decode cX2_readSigned 3 = .ok (.istore 4, 2) := by decide +kernel
theorem dX2_readSigned_5 : decode cX2_readSigned 5 = .ok (.iload 4, 2) := by decide +kernel
theorem dX2_readSigned_7 : decode cX2_readSigned 7 = .ok (.bipush 40, 2) := by decide +kernel
theorem dX2_readSigned_9 : decode cX2_readSigned 9 = .ok (.if_icmp .ge 28, 3) := by decide +kernel
theorem dX2_readSigned_12 : decode cX2_readSigned 12 = .ok (.aload_n 1, 1) := by decide +kernel
theorem dX2_readSigned_13 : decode cX2_readSigned 13 = .ok (.bipush 45, 2) := by decide +kernel
theorem dX2_readSigned_15 : decode cX2_readSigned 15 = .ok (.invokevirtual 72, 3) := by decide +kernel
theorem dX2_readSigned_18 : decode cX2_readSigned 18 = .ok (.ifCond .eq 19, 3) := by decide +kernel
theorem dX2_readSigned_21 : decode cX2_readSigned 21 = .ok (.iload_n 3, 1) := by decide +kernel
theorem dX2_readSigned_22 : decode cX2_readSigned 22 = .ok (.ifCond .ne 7, 3) := by decide +kernel
theorem dX2_readSigned_25 : decode cX2_readSigned 25 = .ok (.iconst 1, 1) := by decide +kernel
theorem dX2_readSigned_26 : decode cX2_readSigned 26 = .ok (.goto 4, 3) := by decide +kernel
theorem dX2_readSigned_29 : decode cX2_readSigned 29 = .ok (.iconst 0, 1) := by decide +kernel
theorem dX2_readSigned_30 : decode cX2_readSigned 30 = .ok (.istore_n 3, 1) := by decide +kernel
theorem dX2_readSigned_31 : decode cX2_readSigned 31 = .ok (.iinc 4 1, 3) := by decide +kernel
theorem dX2_readSigned_34 : decode cX2_readSigned 34 = .ok (.goto (-29), 3) := by decide +kernel
theorem dX2_readSigned_37 : decode cX2_readSigned 37 = .ok (.aload_n 0, 1) := by decide +kernel
theorem dX2_readSigned_38 : decode cX2_readSigned 38 = .ok (.aload_n 1, 1) := by decide +kernel
theorem dX2_readSigned_39 : decode cX2_readSigned 39 = .ok (.iload_n 2, 1) := by decide +kernel
theorem dX2_readSigned_40 : decode cX2_readSigned 40 = .ok (.invokevirtual 75, 3) := by decide +kernel
theorem dX2_readSigned_43 : decode cX2_readSigned 43 = .ok (.iload_n 3, 1) := by decide +kernel
theorem dX2_readSigned_44 : decode cX2_readSigned 44 = .ok (.ifCond .eq 10, 3) := by decide +kernel
theorem dX2_readSigned_47 : decode cX2_readSigned 47 = .ok (.aload_n 0, 1) := by decide +kernel
theorem dX2_readSigned_48 : decode cX2_readSigned 48 = .ok (.sipush 2000, 3) := by decide +kernel
theorem dX2_readSigned_51 : decode cX2_readSigned 51 = .ok (.invokevirtual 63, 3) := by decide +kernel
theorem dX2_readSigned_54 : decode cX2_readSigned 54 = .ok (.return_, 1) := by decide +kernel
theorem bkX2_readSigned_0 {b : Int} {mem : qm} {Q : Int → qm → Prop}
    {w : Int}
    {dd : Nat}
    (hd9 : 10 ≤ dd)
    (l1 : q_At yX2_readSigned cX2_readSigned 5 none (dd + 1) 0 0 (qK (q_rb b) Q) 5 [(2, 149), (2, 145), (0, w), (0, 0), (0, 0)] [] (q_sh0, q_rb b, mem)) :
    q_At yX2_readSigned cX2_readSigned 5 none (dd + 1) 0 0 (qK (q_rb b) Q) 0 [(2, 149), (2, 145), (0, w), (4, 0), (4, 0)] [] (q_sh0, q_rb b, mem) := by
  refine qx_iconst dX2_readSigned_0 rfl rfl ?_
  refine qx_istore_n (L' := [(2, 149), (2, 145), (0, w), (0, 0), (4, 0)]) dX2_readSigned_1 rfl rfl rfl rfl ?_
  refine qx_iconst dX2_readSigned_2 rfl rfl ?_
  refine qx_istore (L' := [(2, 149), (2, 145), (0, w), (0, 0), (0, 0)]) dX2_readSigned_3 rfl rfl rfl ?_
  exact l1
theorem bkX2_readSigned_5 {b : Int} {mem : qm} {Q : Int → qm → Prop}
    {w v3 v4 : Int}
    {dd : Nat}
    (hd9 : 10 ≤ dd)
    {P2 : Int → qm → Prop}
    (l1 : 40 ≤ v4 → q_Ev yX2_readThing cX2_readThing 3 none dd 0 0 [(2, 149), (2, 145), (0, w)] (q_sh0, q_rb b, mem) (qK (q_rb b) (P2)))
    (l2 : 40 ≤ v4 → ∀ (r2 : Int), ∀ (m2 : qm), P2 r2 m2 → q_in32 r2 → v3 = 0 → Q 0 m2)
    {P4 : Int → qm → Int → qm → Prop}
    (l3 : 40 ≤ v4 → ∀ (r2 : Int), ∀ (m2 : qm), P2 r2 m2 → q_in32 r2 → v3 ≠ 0 → q_Ev yX2_write cX2_write 2 none 1 0 0 [(2, 149), (0, 2000)] (q_sh0, q_rb b, m2) (qK (q_rb b) (P4 r2 m2)))
    (l4 : 40 ≤ v4 → ∀ (r2 : Int), ∀ (m2 : qm), P2 r2 m2 → q_in32 r2 → v3 ≠ 0 → ∀ (r4 : Int), ∀ (m4 : qm), P4 r2 m2 r4 m4 → q_in32 r4 → Q 0 m4)
    {P5 : Int → qm → Prop}
    (l5 : v4 < 40 → q_Ev yX6_skip cX6_skip 2 (some .boolean) 2 0 0 [(2, 145), (0, 45)] (q_sh0, q_rb b, mem) (qK (q_rb b) (P5)))
    {P7 : Int → qm → Int → qm → Prop}
    (l6 : v4 < 40 → ∀ (r5 : Int), ∀ (m5 : qm), P5 r5 m5 → q_in32 r5 → r5 = 0 → q_Ev yX2_readThing cX2_readThing 3 none dd 0 0 [(2, 149), (2, 145), (0, w)] (q_sh0, q_rb b, m5) (qK (q_rb b) (P7 r5 m5)))
    (l7 : v4 < 40 → ∀ (r5 : Int), ∀ (m5 : qm), P5 r5 m5 → q_in32 r5 → r5 = 0 → ∀ (r7 : Int), ∀ (m7 : qm), P7 r5 m5 r7 m7 → q_in32 r7 → v3 = 0 → Q 0 m7)
    {P9 : Int → qm → Int → qm → Int → qm → Prop}
    (l8 : v4 < 40 → ∀ (r5 : Int), ∀ (m5 : qm), P5 r5 m5 → q_in32 r5 → r5 = 0 → ∀ (r7 : Int), ∀ (m7 : qm), P7 r5 m5 r7 m7 → q_in32 r7 → v3 ≠ 0 → q_Ev yX2_write cX2_write 2 none 1 0 0 [(2, 149), (0, 2000)] (q_sh0, q_rb b, m7) (qK (q_rb b) (P9 r5 m5 r7 m7)))
    (l9 : v4 < 40 → ∀ (r5 : Int), ∀ (m5 : qm), P5 r5 m5 → q_in32 r5 → r5 = 0 → ∀ (r7 : Int), ∀ (m7 : qm), P7 r5 m5 r7 m7 → q_in32 r7 → v3 ≠ 0 → ∀ (r9 : Int), ∀ (m9 : qm), P9 r5 m5 r7 m7 r9 m9 → q_in32 r9 → Q 0 m9)
    (o10 : v4 < 40 → ∀ (r5 : Int), ∀ (m5 : qm), P5 r5 m5 → q_in32 r5 → r5 ≠ 0 → v3 ≠ 0 → q_in32 (v4 + 1))
    (l11 : v4 < 40 → ∀ (r5 : Int), ∀ (m5 : qm), P5 r5 m5 → q_in32 r5 → r5 ≠ 0 → v3 ≠ 0 → q_At yX2_readSigned cX2_readSigned 5 none (dd + 1) 0 0 (qK (q_rb b) Q) 5 [(2, 149), (2, 145), (0, w), (0, 0), (0, (v4 + 1))] [] (q_sh0, q_rb b, m5))
    (o12 : v4 < 40 → ∀ (r5 : Int), ∀ (m5 : qm), P5 r5 m5 → q_in32 r5 → r5 ≠ 0 → v3 = 0 → q_in32 (v4 + 1))
    (l13 : v4 < 40 → ∀ (r5 : Int), ∀ (m5 : qm), P5 r5 m5 → q_in32 r5 → r5 ≠ 0 → v3 = 0 → q_At yX2_readSigned cX2_readSigned 5 none (dd + 1) 0 0 (qK (q_rb b) Q) 5 [(2, 149), (2, 145), (0, w), (0, 1), (0, (v4 + 1))] [] (q_sh0, q_rb b, m5)) :
    q_At yX2_readSigned cX2_readSigned 5 none (dd + 1) 0 0 (qK (q_rb b) Q) 5 [(2, 149), (2, 145), (0, w), (0, v3), (0, v4)] [] (q_sh0, q_rb b, mem) := by
  refine q_iload dX2_readSigned_5 rfl ?_
  refine qx_bipush dX2_readSigned_7 rfl rfl ?_
  refine qx_icmp_ge (tgt := 37) dX2_readSigned_9 (by decide) (fun c1 => ?_) (fun c1 => ?_)
  · skip
    refine q_aload_n dX2_readSigned_37 rfl rfl ?_
    refine q_aload_n dX2_readSigned_38 rfl rfl ?_
    refine q_iload_n dX2_readSigned_39 rfl rfl ?_
    refine qx_invV (ci := 2) [(2, 145), (0, w)] [(0, w), (2, 145), (2, 149)] rfl qM_X2_readThing dX2_readSigned_40 tw540 rfl qs149 rfl (Nat.ble_eq_true_of_le (by omega)) rfl rfl (l1 c1) (fun r2 m2 p2 q2 => ?_)
    refine q_iload_n dX2_readSigned_43 rfl rfl ?_
    refine qx_if_eq (tgt := 54) dX2_readSigned_44 (by decide) (fun c3 => ?_) (fun c3 => ?_)
    · skip
      exact q_vret dX2_readSigned_54 (qK_i (l2 c1 r2 m2 p2 q2 c3))
    · skip
      refine q_aload_n dX2_readSigned_47 rfl rfl ?_
      refine qx_sipush dX2_readSigned_48 rfl rfl ?_
      refine qx_invV (ci := 2) [(0, 2000)] [(0, 2000), (2, 149)] rfl qM_X2_write dX2_readSigned_51 tw546 rfl qs149 rfl (Nat.ble_eq_true_of_le (by omega)) rfl rfl (l3 c1 r2 m2 p2 q2 c3) (fun r4 m4 p4 q4 => ?_)
      exact q_vret dX2_readSigned_54 (qK_i (l4 c1 r2 m2 p2 q2 c3 r4 m4 p4 q4))
  · skip
    refine q_aload_n dX2_readSigned_12 rfl rfl ?_
    refine qx_bipush dX2_readSigned_13 rfl rfl ?_
    refine qx_invV (ci := 6) [(0, 45)] [(0, 45), (2, 145)] rfl qM_X6_skip dX2_readSigned_15 tw539 rfl qs145 rfl (Nat.ble_eq_true_of_le (by omega)) rfl rfl (l5 c1) (fun r5 m5 p5 q5 => ?_)
    refine qx_if_eq (tgt := 37) dX2_readSigned_18 (by decide) (fun c6 => ?_) (fun c6 => ?_)
    · skip
      refine q_aload_n dX2_readSigned_37 rfl rfl ?_
      refine q_aload_n dX2_readSigned_38 rfl rfl ?_
      refine q_iload_n dX2_readSigned_39 rfl rfl ?_
      refine qx_invV (ci := 2) [(2, 145), (0, w)] [(0, w), (2, 145), (2, 149)] rfl qM_X2_readThing dX2_readSigned_40 tw540 rfl qs149 rfl (Nat.ble_eq_true_of_le (by omega)) rfl rfl (l6 c1 r5 m5 p5 q5 c6) (fun r7 m7 p7 q7 => ?_)
      refine q_iload_n dX2_readSigned_43 rfl rfl ?_
      refine qx_if_eq (tgt := 54) dX2_readSigned_44 (by decide) (fun c8 => ?_) (fun c8 => ?_)
      · skip
        exact q_vret dX2_readSigned_54 (qK_i (l7 c1 r5 m5 p5 q5 c6 r7 m7 p7 q7 c8))
      · skip
        refine q_aload_n dX2_readSigned_47 rfl rfl ?_
        refine qx_sipush dX2_readSigned_48 rfl rfl ?_
        refine qx_invV (ci := 2) [(0, 2000)] [(0, 2000), (2, 149)] rfl qM_X2_write dX2_readSigned_51 tw546 rfl qs149 rfl (Nat.ble_eq_true_of_le (by omega)) rfl rfl (l8 c1 r5 m5 p5 q5 c6 r7 m7 p7 q7 c8) (fun r9 m9 p9 q9 => ?_)
        exact q_vret dX2_readSigned_54 (qK_i (l9 c1 r5 m5 p5 q5 c6 r7 m7 p7 q7 c8 r9 m9 p9 q9))
    · skip
      refine q_iload_n dX2_readSigned_21 rfl rfl ?_
      refine qx_if_ne (tgt := 29) dX2_readSigned_22 (by decide) (fun c10 => ?_) (fun c10 => ?_)
      · skip
        refine qx_iconst dX2_readSigned_29 rfl rfl ?_
        refine qx_istore_n (L' := [(2, 149), (2, 145), (0, w), (0, 0), (0, v4)]) dX2_readSigned_30 rfl rfl rfl rfl ?_
        refine qx_iinc (L' := [(2, 149), (2, 145), (0, w), (0, 0), (0, (v4 + 1))]) dX2_readSigned_31 rfl rfl rfl (o10 c1 r5 m5 p5 q5 c6 c10) rfl ?_
        refine q_goto (tgt := 5) dX2_readSigned_34 (by decide) ?_
        exact l11 c1 r5 m5 p5 q5 c6 c10
      · skip
        refine qx_iconst dX2_readSigned_25 rfl rfl ?_
        refine q_goto (tgt := 30) dX2_readSigned_26 (by decide) ?_
        refine qx_istore_n (L' := [(2, 149), (2, 145), (0, w), (0, 1), (0, v4)]) dX2_readSigned_30 rfl rfl rfl rfl ?_
        refine qx_iinc (L' := [(2, 149), (2, 145), (0, w), (0, 1), (0, (v4 + 1))]) dX2_readSigned_31 rfl rfl rfl (o12 c1 r5 m5 p5 q5 c6 c10) rfl ?_
        refine q_goto (tgt := 5) dX2_readSigned_34 (by decide) ?_
        exact l13 c1 r5 m5 p5 q5 c6 c10
theorem dX2_readProduct_0 : decode cX2_readProduct 0 = .ok (.aload_n 0, 1) := by decide +kernel
theorem dX2_readProduct_1 : decode cX2_readProduct 1 = .ok (.aload_n 1, 1) := by decide +kernel
theorem dX2_readProduct_2 : decode cX2_readProduct 2 = .ok (.iload_n 2, 1) := by decide +kernel
theorem dX2_readProduct_3 : decode cX2_readProduct 3 = .ok (.invokevirtual 69, 3) := by decide +kernel
theorem dX2_readProduct_6 : decode cX2_readProduct 6 = .ok (.iconst 0, 1) := by decide +kernel
theorem dX2_readProduct_7 : decode cX2_readProduct 7 = .ok (.istore_n 3, 1) := by decide +kernel
theorem dX2_readProduct_8 : decode cX2_readProduct 8 = .ok (.iload_n 3, 1) := by decide +kernel
theorem dX2_readProduct_9 : decode cX2_readProduct 9 = .ok (.bipush 40, 2) := by decide +kernel
theorem dX2_readProduct_11 : decode cX2_readProduct 11 = .ok (.if_icmp .ge 49, 3) := by decide +kernel
theorem dX2_readProduct_14 : decode cX2_readProduct 14 = .ok (.aload_n 1, 1) := by decide +kernel
theorem dX2_readProduct_15 : decode cX2_readProduct 15 = .ok (.bipush 42, 2) := by decide +kernel
theorem dX2_readProduct_17 : decode cX2_readProduct 17 = .ok (.invokevirtual 55, 3) := by decide +kernel
theorem dX2_readProduct_20 : decode cX2_readProduct 20 = .ok (.ifCond .ne 12, 3) := by decide +kernel
theorem dX2_readProduct_23 : decode cX2_readProduct 23 = .ok (.aload_n 1, 1) := by decide +kernel
theorem dX2_readProduct_24 : decode cX2_readProduct 24 = .ok (.bipush 47, 2) := by decide +kernel
theorem dX2_readProduct_26 : decode cX2_readProduct 26 = .ok (.invokevirtual 55, 3) := by decide +kernel
theorem dX2_readProduct_29 : decode cX2_readProduct 29 = .ok (.ifCond .eq 31, 3) := by decide +kernel
theorem dX2_readProduct_32 : decode cX2_readProduct 32 = .ok (.aload_n 1, 1) := by decide +kernel
theorem dX2_readProduct_33 : decode cX2_readProduct 33 = .ok (.invokevirtual 59, 3) := by decide +kernel
theorem dX2_readProduct_36 : decode cX2_readProduct 36 = .ok (.istore 4, 2) := by decide +kernel
theorem dX2_readProduct_38 : decode cX2_readProduct 38 = .ok (.aload_n 0, 1) := by decide +kernel
theorem dX2_readProduct_39 : decode cX2_readProduct 39 = .ok (.aload_n 1, 1) := by decide +kernel
theorem dX2_readProduct_40 : decode cX2_readProduct 40 = .ok (.iload_n 2, 1) := by decide +kernel
theorem dX2_readProduct_41 : decode cX2_readProduct 41 = .ok (.invokevirtual 69, 3) := by decide +kernel
theorem dX2_readProduct_44 : decode cX2_readProduct 44 = .ok (.aload_n 0, 1) := by decide +kernel
theorem dX2_readProduct_45 : decode cX2_readProduct 45 = .ok (.sipush 3000, 3) := by decide +kernel
theorem dX2_readProduct_48 : decode cX2_readProduct 48 = .ok (.iload 4, 2) := by decide +kernel
theorem dX2_readProduct_50 : decode cX2_readProduct 50 = .ok (.iadd, 1) := by decide +kernel
theorem dX2_readProduct_51 : decode cX2_readProduct 51 = .ok (.invokevirtual 63, 3) := by decide +kernel
theorem dX2_readProduct_54 : decode cX2_readProduct 54 = .ok (.iinc 3 1, 3) := by decide +kernel
theorem dX2_readProduct_57 : decode cX2_readProduct 57 = .ok (.goto (-49), 3) := by decide +kernel
theorem dX2_readProduct_60 : decode cX2_readProduct 60 = .ok (.return_, 1) := by decide +kernel
theorem bkX2_readProduct_0 {b : Int} {mem : qm} {Q : Int → qm → Prop}
    {w : Int}
    {dd : Nat}
    (hd9 : 10 ≤ dd)
    {P1 : Int → qm → Prop}
    (l1 : q_Ev yX2_readSigned cX2_readSigned 5 none dd 0 0 [(2, 149), (2, 145), (0, w)] (q_sh0, q_rb b, mem) (qK (q_rb b) (P1)))
    (l2 : ∀ (r1 : Int), ∀ (m1 : qm), P1 r1 m1 → q_in32 r1 → q_At yX2_readProduct cX2_readProduct 5 none (dd + 1) 0 0 (qK (q_rb b) Q) 8 [(2, 149), (2, 145), (0, w), (0, 0), (4, 0)] [] (q_sh0, q_rb b, m1)) :
    q_At yX2_readProduct cX2_readProduct 5 none (dd + 1) 0 0 (qK (q_rb b) Q) 0 [(2, 149), (2, 145), (0, w), (4, 0), (4, 0)] [] (q_sh0, q_rb b, mem) := by
  refine q_aload_n dX2_readProduct_0 rfl rfl ?_
  refine q_aload_n dX2_readProduct_1 rfl rfl ?_
  refine q_iload_n dX2_readProduct_2 rfl rfl ?_
  refine qx_invV (ci := 2) [(2, 145), (0, w)] [(0, w), (2, 145), (2, 149)] rfl qM_X2_readSigned dX2_readProduct_3 tw535 rfl qs149 rfl (Nat.ble_eq_true_of_le (by omega)) rfl rfl (l1) (fun r1 m1 p1 q1 => ?_)
  refine qx_iconst dX2_readProduct_6 rfl rfl ?_
  refine qx_istore_n (L' := [(2, 149), (2, 145), (0, w), (0, 0), (4, 0)]) dX2_readProduct_7 rfl rfl rfl rfl ?_
  exact l2 r1 m1 p1 q1
theorem bkX2_readProduct_8 {b : Int} {mem : qm} {Q : Int → qm → Prop}
    {w v3 : Int}
    {dd : Nat}
    (hd9 : 10 ≤ dd)
    (l1 : 40 ≤ v3 → Q 0 mem)
    {P2 : Int → qm → Prop}
    (l2 : v3 < 40 → q_Ev yX6_sees cX6_sees 2 (some .boolean) 2 0 0 [(2, 145), (0, 42)] (q_sh0, q_rb b, mem) (qK (q_rb b) (P2)))
    (l3 : v3 < 40 → ∀ (r2 : Int), ∀ (m2 : qm), P2 r2 m2 → q_in32 r2 → r2 ≠ 0 → q_At yX2_readProduct cX2_readProduct 5 none (dd + 1) 0 0 (qK (q_rb b) Q) 32 [(2, 149), (2, 145), (0, w), (0, v3), (4, 0)] [] (q_sh0, q_rb b, m2))
    {P4 : Int → qm → Int → qm → Prop}
    (l4 : v3 < 40 → ∀ (r2 : Int), ∀ (m2 : qm), P2 r2 m2 → q_in32 r2 → r2 = 0 → q_Ev yX6_sees cX6_sees 2 (some .boolean) 2 0 0 [(2, 145), (0, 47)] (q_sh0, q_rb b, m2) (qK (q_rb b) (P4 r2 m2)))
    (l5 : v3 < 40 → ∀ (r2 : Int), ∀ (m2 : qm), P2 r2 m2 → q_in32 r2 → r2 = 0 → ∀ (r4 : Int), ∀ (m4 : qm), P4 r2 m2 r4 m4 → q_in32 r4 → r4 = 0 → Q 0 m4)
    (l6 : v3 < 40 → ∀ (r2 : Int), ∀ (m2 : qm), P2 r2 m2 → q_in32 r2 → r2 = 0 → ∀ (r4 : Int), ∀ (m4 : qm), P4 r2 m2 r4 m4 → q_in32 r4 → r4 ≠ 0 → q_At yX2_readProduct cX2_readProduct 5 none (dd + 1) 0 0 (qK (q_rb b) Q) 32 [(2, 149), (2, 145), (0, w), (0, v3), (4, 0)] [] (q_sh0, q_rb b, m4)) :
    q_At yX2_readProduct cX2_readProduct 5 none (dd + 1) 0 0 (qK (q_rb b) Q) 8 [(2, 149), (2, 145), (0, w), (0, v3), (4, 0)] [] (q_sh0, q_rb b, mem) := by
  refine q_iload_n dX2_readProduct_8 rfl rfl ?_
  refine qx_bipush dX2_readProduct_9 rfl rfl ?_
  refine qx_icmp_ge (tgt := 60) dX2_readProduct_11 (by decide) (fun c1 => ?_) (fun c1 => ?_)
  · skip
    exact q_vret dX2_readProduct_60 (qK_i (l1 c1))
  · skip
    refine q_aload_n dX2_readProduct_14 rfl rfl ?_
    refine qx_bipush dX2_readProduct_15 rfl rfl ?_
    refine qx_invV (ci := 6) [(0, 42)] [(0, 42), (2, 145)] rfl qM_X6_sees dX2_readProduct_17 tw558 rfl qs145 rfl (Nat.ble_eq_true_of_le (by omega)) rfl rfl (l2 c1) (fun r2 m2 p2 q2 => ?_)
    refine qx_if_ne (tgt := 32) dX2_readProduct_20 (by decide) (fun c3 => ?_) (fun c3 => ?_)
    · skip
      exact l3 c1 r2 m2 p2 q2 c3
    · skip
      refine q_aload_n dX2_readProduct_23 rfl rfl ?_
      refine qx_bipush dX2_readProduct_24 rfl rfl ?_
      refine qx_invV (ci := 6) [(0, 47)] [(0, 47), (2, 145)] rfl qM_X6_sees dX2_readProduct_26 tw558 rfl qs145 rfl (Nat.ble_eq_true_of_le (by omega)) rfl rfl (l4 c1 r2 m2 p2 q2 c3) (fun r4 m4 p4 q4 => ?_)
      refine qx_if_eq (tgt := 60) dX2_readProduct_29 (by decide) (fun c5 => ?_) (fun c5 => ?_)
      · skip
        exact q_vret dX2_readProduct_60 (qK_i (l5 c1 r2 m2 p2 q2 c3 r4 m4 p4 q4 c5))
      · skip
        exact l6 c1 r2 m2 p2 q2 c3 r4 m4 p4 q4 c5
theorem bkX2_readProduct_32 {b : Int} {mem : qm} {Q : Int → qm → Prop}
    {w v3 : Int}
    {dd : Nat}
    (hd9 : 10 ≤ dd)
    {P1 : Int → qm → Prop}
    (l1 : q_Ev yX6_next cX6_next 2 (some .int) 2 0 0 [(2, 145)] (q_sh0, q_rb b, mem) (qK (q_rb b) (P1)))
    {P2 : Int → qm → Int → qm → Prop}
    (l2 : ∀ (r1 : Int), ∀ (m1 : qm), P1 r1 m1 → q_in32 r1 → q_Ev yX2_readSigned cX2_readSigned 5 none dd 0 0 [(2, 149), (2, 145), (0, w)] (q_sh0, q_rb b, m1) (qK (q_rb b) (P2 r1 m1)))
    (o3 : ∀ (r1 : Int), ∀ (m1 : qm), P1 r1 m1 → q_in32 r1 → ∀ (r2 : Int), ∀ (m2 : qm), P2 r1 m1 r2 m2 → q_in32 r2 → q_in32 (3000 + r1))
    {P3 : Int → qm → Int → qm → Int → qm → Prop}
    (l4 : ∀ (r1 : Int), ∀ (m1 : qm), P1 r1 m1 → q_in32 r1 → ∀ (r2 : Int), ∀ (m2 : qm), P2 r1 m1 r2 m2 → q_in32 r2 → q_Ev yX2_write cX2_write 2 none 1 0 0 [(2, 149), (0, (3000 + r1))] (q_sh0, q_rb b, m2) (qK (q_rb b) (P3 r1 m1 r2 m2)))
    (o5 : ∀ (r1 : Int), ∀ (m1 : qm), P1 r1 m1 → q_in32 r1 → ∀ (r2 : Int), ∀ (m2 : qm), P2 r1 m1 r2 m2 → q_in32 r2 → ∀ (r3 : Int), ∀ (m3 : qm), P3 r1 m1 r2 m2 r3 m3 → q_in32 r3 → q_in32 (v3 + 1))
    (l6 : ∀ (r1 : Int), ∀ (m1 : qm), P1 r1 m1 → q_in32 r1 → ∀ (r2 : Int), ∀ (m2 : qm), P2 r1 m1 r2 m2 → q_in32 r2 → ∀ (r3 : Int), ∀ (m3 : qm), P3 r1 m1 r2 m2 r3 m3 → q_in32 r3 → q_At yX2_readProduct cX2_readProduct 5 none (dd + 1) 0 0 (qK (q_rb b) Q) 8 [(2, 149), (2, 145), (0, w), (0, (v3 + 1)), (4, 0)] [] (q_sh0, q_rb b, m3)) :
    q_At yX2_readProduct cX2_readProduct 5 none (dd + 1) 0 0 (qK (q_rb b) Q) 32 [(2, 149), (2, 145), (0, w), (0, v3), (4, 0)] [] (q_sh0, q_rb b, mem) := by
  refine q_aload_n dX2_readProduct_32 rfl rfl ?_
  refine qx_invV (ci := 6) [] [(2, 145)] rfl qM_X6_next dX2_readProduct_33 tw562 rfl qs145 rfl (Nat.ble_eq_true_of_le (by omega)) rfl rfl (l1) (fun r1 m1 p1 q1 => ?_)
  refine qx_istore (L' := [(2, 149), (2, 145), (0, w), (0, v3), (0, r1)]) dX2_readProduct_36 rfl rfl rfl ?_
  refine q_aload_n dX2_readProduct_38 rfl rfl ?_
  refine q_aload_n dX2_readProduct_39 rfl rfl ?_
  refine q_iload_n dX2_readProduct_40 rfl rfl ?_
  refine qx_invV (ci := 2) [(2, 145), (0, w)] [(0, w), (2, 145), (2, 149)] rfl qM_X2_readSigned dX2_readProduct_41 tw535 rfl qs149 rfl (Nat.ble_eq_true_of_le (by omega)) rfl rfl (l2 r1 m1 p1 q1) (fun r2 m2 p2 q2 => ?_)
  refine q_aload_n dX2_readProduct_44 rfl rfl ?_
  refine qx_sipush dX2_readProduct_45 rfl rfl ?_
  refine q_iload dX2_readProduct_48 rfl ?_
  refine qx_iadd dX2_readProduct_50 (o3 r1 m1 p1 q1 r2 m2 p2 q2) ?_
  refine qx_invV (ci := 2) [(0, (3000 + r1))] [(0, (3000 + r1)), (2, 149)] rfl qM_X2_write dX2_readProduct_51 tw546 rfl qs149 rfl (Nat.ble_eq_true_of_le (by omega)) rfl rfl (l4 r1 m1 p1 q1 r2 m2 p2 q2) (fun r3 m3 p3 q3 => ?_)
  refine qx_iinc (L' := [(2, 149), (2, 145), (0, w), (0, (v3 + 1)), (0, r1)]) dX2_readProduct_54 rfl rfl rfl (o5 r1 m1 p1 q1 r2 m2 p2 q2 r3 m3 p3 q3) rfl ?_
  refine q_goto (tgt := 8) dX2_readProduct_57 (by decide) ?_
  refine q_kill (L' := [(2, 149), (2, 145), (0, w), (0, (v3 + 1)), (4, 0)]) 4 rfl ?_
  exact l6 r1 m1 p1 q1 r2 m2 p2 q2 r3 m3 p3 q3
theorem dX2_readSum_0 : decode cX2_readSum 0 = .ok (.aload_n 0, 1) := by decide +kernel
theorem dX2_readSum_1 : decode cX2_readSum 1 = .ok (.aload_n 1, 1) := by decide +kernel
theorem dX2_readSum_2 : decode cX2_readSum 2 = .ok (.iload_n 2, 1) := by decide +kernel
theorem dX2_readSum_3 : decode cX2_readSum 3 = .ok (.invokevirtual 66, 3) := by decide +kernel
theorem dX2_readSum_6 : decode cX2_readSum 6 = .ok (.iconst 0, 1) := by decide +kernel
theorem dX2_readSum_7 : decode cX2_readSum 7 = .ok (.istore_n 3, 1) := by decide +kernel
theorem dX2_readSum_8 : decode cX2_readSum 8 = .ok (.iload_n 3, 1) := by decide +kernel
theorem dX2_readSum_9 : decode cX2_readSum 9 = .ok (.bipush 40, 2) := by decide +kernel
theorem dX2_readSum_11 : decode cX2_readSum 11 = .ok (.if_icmp .ge 49, 3) := by decide +kernel
theorem dX2_readSum_14 : decode cX2_readSum 14 = .ok (.aload_n 1, 1) := by decide +kernel
theorem dX2_readSum_15 : decode cX2_readSum 15 = .ok (.bipush 43, 2) := by decide +kernel
theorem dX2_readSum_17 : decode cX2_readSum 17 = .ok (.invokevirtual 55, 3) := by decide +kernel
theorem dX2_readSum_20 : decode cX2_readSum 20 = .ok (.ifCond .ne 12, 3) := by decide +kernel
theorem dX2_readSum_23 : decode cX2_readSum 23 = .ok (.aload_n 1, 1) := by decide +kernel
theorem dX2_readSum_24 : decode cX2_readSum 24 = .ok (.bipush 45, 2) := by decide +kernel
theorem dX2_readSum_26 : decode cX2_readSum 26 = .ok (.invokevirtual 55, 3) := by decide +kernel
theorem dX2_readSum_29 : decode cX2_readSum 29 = .ok (.ifCond .eq 31, 3) := by decide +kernel
theorem dX2_readSum_32 : decode cX2_readSum 32 = .ok (.aload_n 1, 1) := by decide +kernel
theorem dX2_readSum_33 : decode cX2_readSum 33 = .ok (.invokevirtual 59, 3) := by decide +kernel
theorem dX2_readSum_36 : decode cX2_readSum 36 = .ok (.istore 4, 2) := by decide +kernel
theorem dX2_readSum_38 : decode cX2_readSum 38 = .ok (.aload_n 0, 1) := by decide +kernel
theorem dX2_readSum_39 : decode cX2_readSum 39 = .ok (.aload_n 1, 1) := by decide +kernel
theorem dX2_readSum_40 : decode cX2_readSum 40 = .ok (.iload_n 2, 1) := by decide +kernel
theorem dX2_readSum_41 : decode cX2_readSum 41 = .ok (.invokevirtual 66, 3) := by decide +kernel
theorem dX2_readSum_44 : decode cX2_readSum 44 = .ok (.aload_n 0, 1) := by decide +kernel
theorem dX2_readSum_45 : decode cX2_readSum 45 = .ok (.sipush 3000, 3) := by decide +kernel
theorem dX2_readSum_48 : decode cX2_readSum 48 = .ok (.iload 4, 2) := by decide +kernel
theorem dX2_readSum_50 : decode cX2_readSum 50 = .ok (.iadd, 1) := by decide +kernel
theorem dX2_readSum_51 : decode cX2_readSum 51 = .ok (.invokevirtual 63, 3) := by decide +kernel
theorem dX2_readSum_54 : decode cX2_readSum 54 = .ok (.iinc 3 1, 3) := by decide +kernel
theorem dX2_readSum_57 : decode cX2_readSum 57 = .ok (.goto (-49), 3) := by decide +kernel
theorem dX2_readSum_60 : decode cX2_readSum 60 = .ok (.return_, 1) := by decide +kernel
theorem bkX2_readSum_0 {b : Int} {mem : qm} {Q : Int → qm → Prop}
    {w : Int}
    {dd : Nat}
    (hd9 : 10 ≤ dd)
    {P1 : Int → qm → Prop}
    (l1 : q_Ev yX2_readProduct cX2_readProduct 5 none dd 0 0 [(2, 149), (2, 145), (0, w)] (q_sh0, q_rb b, mem) (qK (q_rb b) (P1)))
    (l2 : ∀ (r1 : Int), ∀ (m1 : qm), P1 r1 m1 → q_in32 r1 → q_At yX2_readSum cX2_readSum 5 none (dd + 1) 0 0 (qK (q_rb b) Q) 8 [(2, 149), (2, 145), (0, w), (0, 0), (4, 0)] [] (q_sh0, q_rb b, m1)) :
    q_At yX2_readSum cX2_readSum 5 none (dd + 1) 0 0 (qK (q_rb b) Q) 0 [(2, 149), (2, 145), (0, w), (4, 0), (4, 0)] [] (q_sh0, q_rb b, mem) := by
  refine q_aload_n dX2_readSum_0 rfl rfl ?_
  refine q_aload_n dX2_readSum_1 rfl rfl ?_
  refine q_iload_n dX2_readSum_2 rfl rfl ?_
  refine qx_invV (ci := 2) [(2, 145), (0, w)] [(0, w), (2, 145), (2, 149)] rfl qM_X2_readProduct dX2_readSum_3 tw531 rfl qs149 rfl (Nat.ble_eq_true_of_le (by omega)) rfl rfl (l1) (fun r1 m1 p1 q1 => ?_)
  refine qx_iconst dX2_readSum_6 rfl rfl ?_
  refine qx_istore_n (L' := [(2, 149), (2, 145), (0, w), (0, 0), (4, 0)]) dX2_readSum_7 rfl rfl rfl rfl ?_
  exact l2 r1 m1 p1 q1
theorem bkX2_readSum_8 {b : Int} {mem : qm} {Q : Int → qm → Prop}
    {w v3 : Int}
    {dd : Nat}
    (hd9 : 10 ≤ dd)
    (l1 : 40 ≤ v3 → Q 0 mem)
    {P2 : Int → qm → Prop}
    (l2 : v3 < 40 → q_Ev yX6_sees cX6_sees 2 (some .boolean) 2 0 0 [(2, 145), (0, 43)] (q_sh0, q_rb b, mem) (qK (q_rb b) (P2)))
    (l3 : v3 < 40 → ∀ (r2 : Int), ∀ (m2 : qm), P2 r2 m2 → q_in32 r2 → r2 ≠ 0 → q_At yX2_readSum cX2_readSum 5 none (dd + 1) 0 0 (qK (q_rb b) Q) 32 [(2, 149), (2, 145), (0, w), (0, v3), (4, 0)] [] (q_sh0, q_rb b, m2))
    {P4 : Int → qm → Int → qm → Prop}
    (l4 : v3 < 40 → ∀ (r2 : Int), ∀ (m2 : qm), P2 r2 m2 → q_in32 r2 → r2 = 0 → q_Ev yX6_sees cX6_sees 2 (some .boolean) 2 0 0 [(2, 145), (0, 45)] (q_sh0, q_rb b, m2) (qK (q_rb b) (P4 r2 m2)))
    (l5 : v3 < 40 → ∀ (r2 : Int), ∀ (m2 : qm), P2 r2 m2 → q_in32 r2 → r2 = 0 → ∀ (r4 : Int), ∀ (m4 : qm), P4 r2 m2 r4 m4 → q_in32 r4 → r4 = 0 → Q 0 m4)
    (l6 : v3 < 40 → ∀ (r2 : Int), ∀ (m2 : qm), P2 r2 m2 → q_in32 r2 → r2 = 0 → ∀ (r4 : Int), ∀ (m4 : qm), P4 r2 m2 r4 m4 → q_in32 r4 → r4 ≠ 0 → q_At yX2_readSum cX2_readSum 5 none (dd + 1) 0 0 (qK (q_rb b) Q) 32 [(2, 149), (2, 145), (0, w), (0, v3), (4, 0)] [] (q_sh0, q_rb b, m4)) :
    q_At yX2_readSum cX2_readSum 5 none (dd + 1) 0 0 (qK (q_rb b) Q) 8 [(2, 149), (2, 145), (0, w), (0, v3), (4, 0)] [] (q_sh0, q_rb b, mem) := by
  refine q_iload_n dX2_readSum_8 rfl rfl ?_
  refine qx_bipush dX2_readSum_9 rfl rfl ?_
  refine qx_icmp_ge (tgt := 60) dX2_readSum_11 (by decide) (fun c1 => ?_) (fun c1 => ?_)
  · skip
    exact q_vret dX2_readSum_60 (qK_i (l1 c1))
  · skip
    refine q_aload_n dX2_readSum_14 rfl rfl ?_
    refine qx_bipush dX2_readSum_15 rfl rfl ?_
    refine qx_invV (ci := 6) [(0, 43)] [(0, 43), (2, 145)] rfl qM_X6_sees dX2_readSum_17 tw558 rfl qs145 rfl (Nat.ble_eq_true_of_le (by omega)) rfl rfl (l2 c1) (fun r2 m2 p2 q2 => ?_)
    refine qx_if_ne (tgt := 32) dX2_readSum_20 (by decide) (fun c3 => ?_) (fun c3 => ?_)
    · skip
      exact l3 c1 r2 m2 p2 q2 c3
    · skip
      refine q_aload_n dX2_readSum_23 rfl rfl ?_
      refine qx_bipush dX2_readSum_24 rfl rfl ?_
      refine qx_invV (ci := 6) [(0, 45)] [(0, 45), (2, 145)] rfl qM_X6_sees dX2_readSum_26 tw558 rfl qs145 rfl (Nat.ble_eq_true_of_le (by omega)) rfl rfl (l4 c1 r2 m2 p2 q2 c3) (fun r4 m4 p4 q4 => ?_)
      refine qx_if_eq (tgt := 60) dX2_readSum_29 (by decide) (fun c5 => ?_) (fun c5 => ?_)
      · skip
        exact q_vret dX2_readSum_60 (qK_i (l5 c1 r2 m2 p2 q2 c3 r4 m4 p4 q4 c5))
      · skip
        exact l6 c1 r2 m2 p2 q2 c3 r4 m4 p4 q4 c5
theorem bkX2_readSum_32 {b : Int} {mem : qm} {Q : Int → qm → Prop}
    {w v3 : Int}
    {dd : Nat}
    (hd9 : 10 ≤ dd)
    {P1 : Int → qm → Prop}
    (l1 : q_Ev yX6_next cX6_next 2 (some .int) 2 0 0 [(2, 145)] (q_sh0, q_rb b, mem) (qK (q_rb b) (P1)))
    {P2 : Int → qm → Int → qm → Prop}
    (l2 : ∀ (r1 : Int), ∀ (m1 : qm), P1 r1 m1 → q_in32 r1 → q_Ev yX2_readProduct cX2_readProduct 5 none dd 0 0 [(2, 149), (2, 145), (0, w)] (q_sh0, q_rb b, m1) (qK (q_rb b) (P2 r1 m1)))
    (o3 : ∀ (r1 : Int), ∀ (m1 : qm), P1 r1 m1 → q_in32 r1 → ∀ (r2 : Int), ∀ (m2 : qm), P2 r1 m1 r2 m2 → q_in32 r2 → q_in32 (3000 + r1))
    {P3 : Int → qm → Int → qm → Int → qm → Prop}
    (l4 : ∀ (r1 : Int), ∀ (m1 : qm), P1 r1 m1 → q_in32 r1 → ∀ (r2 : Int), ∀ (m2 : qm), P2 r1 m1 r2 m2 → q_in32 r2 → q_Ev yX2_write cX2_write 2 none 1 0 0 [(2, 149), (0, (3000 + r1))] (q_sh0, q_rb b, m2) (qK (q_rb b) (P3 r1 m1 r2 m2)))
    (o5 : ∀ (r1 : Int), ∀ (m1 : qm), P1 r1 m1 → q_in32 r1 → ∀ (r2 : Int), ∀ (m2 : qm), P2 r1 m1 r2 m2 → q_in32 r2 → ∀ (r3 : Int), ∀ (m3 : qm), P3 r1 m1 r2 m2 r3 m3 → q_in32 r3 → q_in32 (v3 + 1))
    (l6 : ∀ (r1 : Int), ∀ (m1 : qm), P1 r1 m1 → q_in32 r1 → ∀ (r2 : Int), ∀ (m2 : qm), P2 r1 m1 r2 m2 → q_in32 r2 → ∀ (r3 : Int), ∀ (m3 : qm), P3 r1 m1 r2 m2 r3 m3 → q_in32 r3 → q_At yX2_readSum cX2_readSum 5 none (dd + 1) 0 0 (qK (q_rb b) Q) 8 [(2, 149), (2, 145), (0, w), (0, (v3 + 1)), (4, 0)] [] (q_sh0, q_rb b, m3)) :
    q_At yX2_readSum cX2_readSum 5 none (dd + 1) 0 0 (qK (q_rb b) Q) 32 [(2, 149), (2, 145), (0, w), (0, v3), (4, 0)] [] (q_sh0, q_rb b, mem) := by
  refine q_aload_n dX2_readSum_32 rfl rfl ?_
  refine qx_invV (ci := 6) [] [(2, 145)] rfl qM_X6_next dX2_readSum_33 tw562 rfl qs145 rfl (Nat.ble_eq_true_of_le (by omega)) rfl rfl (l1) (fun r1 m1 p1 q1 => ?_)
  refine qx_istore (L' := [(2, 149), (2, 145), (0, w), (0, v3), (0, r1)]) dX2_readSum_36 rfl rfl rfl ?_
  refine q_aload_n dX2_readSum_38 rfl rfl ?_
  refine q_aload_n dX2_readSum_39 rfl rfl ?_
  refine q_iload_n dX2_readSum_40 rfl rfl ?_
  refine qx_invV (ci := 2) [(2, 145), (0, w)] [(0, w), (2, 145), (2, 149)] rfl qM_X2_readProduct dX2_readSum_41 tw531 rfl qs149 rfl (Nat.ble_eq_true_of_le (by omega)) rfl rfl (l2 r1 m1 p1 q1) (fun r2 m2 p2 q2 => ?_)
  refine q_aload_n dX2_readSum_44 rfl rfl ?_
  refine qx_sipush dX2_readSum_45 rfl rfl ?_
  refine q_iload dX2_readSum_48 rfl ?_
  refine qx_iadd dX2_readSum_50 (o3 r1 m1 p1 q1 r2 m2 p2 q2) ?_
  refine qx_invV (ci := 2) [(0, (3000 + r1))] [(0, (3000 + r1)), (2, 149)] rfl qM_X2_write dX2_readSum_51 tw546 rfl qs149 rfl (Nat.ble_eq_true_of_le (by omega)) rfl rfl (l4 r1 m1 p1 q1 r2 m2 p2 q2) (fun r3 m3 p3 q3 => ?_)
  refine qx_iinc (L' := [(2, 149), (2, 145), (0, w), (0, (v3 + 1)), (0, r1)]) dX2_readSum_54 rfl rfl rfl (o5 r1 m1 p1 q1 r2 m2 p2 q2 r3 m3 p3 q3) rfl ?_
  refine q_goto (tgt := 8) dX2_readSum_57 (by decide) ?_
  refine q_kill (L' := [(2, 149), (2, 145), (0, w), (0, (v3 + 1)), (4, 0)]) 4 rfl ?_
  exact l6 r1 m1 p1 q1 r2 m2 p2 q2 r3 m3 p3 q3
theorem dX2_readComparison_0 : decode cX2_readComparison 0 = .ok (.aload_n 0, 1) := by decide +kernel
theorem dX2_readComparison_1 : decode cX2_readComparison 1 = .ok (.aload_n 1, 1) := by decide +kernel
theorem dX2_readComparison_2 : decode cX2_readComparison 2 = .ok (.iload_n 2, 1) := by decide +kernel
theorem dX2_readComparison_3 : decode cX2_readComparison 3 = .ok (.invokevirtual 52, 3) := by decide +kernel
theorem dX2_readComparison_6 : decode cX2_readComparison 6 = .ok (.aload_n 1, 1) := by decide +kernel
theorem dX2_readComparison_7 : decode cX2_readComparison 7 = .ok (.bipush 60, 2) := by decide +kernel
theorem dX2_readComparison_9 : decode cX2_readComparison 9 = .ok (.invokevirtual 55, 3) := by decide +kernel
theorem dX2_readComparison_12 : decode cX2_readComparison 12 = .ok (.ifCond .ne 21, 3) := by decide +kernel
theorem dX2_readComparison_15 : decode cX2_readComparison 15 = .ok (.aload_n 1, 1) := by decide +kernel
theorem dX2_readComparison_16 : decode cX2_readComparison 16 = .ok (.bipush 62, 2) := by decide +kernel
theorem dX2_readComparison_18 : decode cX2_readComparison 18 = .ok (.invokevirtual 55, 3) := by decide +kernel
theorem dX2_readComparison_21 : decode cX2_readComparison 21 = .ok (.ifCond .ne 12, 3) := by decide +kernel
theorem dX2_readComparison_24 : decode cX2_readComparison 24 = .ok (.aload_n 1, 1) := by decide +kernel
theorem dX2_readComparison_25 : decode cX2_readComparison 25 = .ok (.bipush 61, 2) := by decide +kernel
theorem dX2_readComparison_27 : decode cX2_readComparison 27 = .ok (.invokevirtual 55, 3) := by decide +kernel
theorem dX2_readComparison_30 : decode cX2_readComparison 30 = .ok (.ifCond .eq 23, 3) := by decide +kernel
theorem dX2_readComparison_33 : decode cX2_readComparison 33 = .ok (.aload_n 1, 1) := by decide +kernel
theorem dX2_readComparison_34 : decode cX2_readComparison 34 = .ok (.invokevirtual 59, 3) := by decide +kernel
theorem dX2_readComparison_37 : decode cX2_readComparison 37 = .ok (.istore_n 3, 1) := by decide +kernel
theorem dX2_readComparison_38 : decode cX2_readComparison 38 = .ok (.aload_n 0, 1) := by decide +kernel
theorem dX2_readComparison_39 : decode cX2_readComparison 39 = .ok (.aload_n 1, 1) := by decide +kernel
theorem dX2_readComparison_40 : decode cX2_readComparison 40 = .ok (.iload_n 2, 1) := by decide +kernel
theorem dX2_readComparison_41 : decode cX2_readComparison 41 = .ok (.invokevirtual 52, 3) := by decide +kernel
theorem dX2_readComparison_44 : decode cX2_readComparison 44 = .ok (.aload_n 0, 1) := by decide +kernel
theorem dX2_readComparison_45 : decode cX2_readComparison 45 = .ok (.sipush 3000, 3) := by decide +kernel
theorem dX2_readComparison_48 : decode cX2_readComparison 48 = .ok (.iload_n 3, 1) := by decide +kernel
theorem dX2_readComparison_49 : decode cX2_readComparison 49 = .ok (.iadd, 1) := by decide +kernel
theorem dX2_readComparison_50 : decode cX2_readComparison 50 = .ok (.invokevirtual 63, 3) := by decide +kernel
theorem dX2_readComparison_53 : decode cX2_readComparison 53 = .ok (.return_, 1) := by decide +kernel
theorem bkX2_readComparison_0 {b : Int} {mem : qm} {Q : Int → qm → Prop}
    {w : Int}
    {dd : Nat}
    (hd9 : 10 ≤ dd)
    {P1 : Int → qm → Prop}
    (l1 : q_Ev yX2_readSum cX2_readSum 5 none dd 0 0 [(2, 149), (2, 145), (0, w)] (q_sh0, q_rb b, mem) (qK (q_rb b) (P1)))
    {P2 : Int → qm → Int → qm → Prop}
    (l2 : ∀ (r1 : Int), ∀ (m1 : qm), P1 r1 m1 → q_in32 r1 → q_Ev yX6_sees cX6_sees 2 (some .boolean) 2 0 0 [(2, 145), (0, 60)] (q_sh0, q_rb b, m1) (qK (q_rb b) (P2 r1 m1)))
    (l3 : ∀ (r1 : Int), ∀ (m1 : qm), P1 r1 m1 → q_in32 r1 → ∀ (r2 : Int), ∀ (m2 : qm), P2 r1 m1 r2 m2 → q_in32 r2 → r2 ≠ 0 → q_At yX2_readComparison cX2_readComparison 4 none (dd + 1) 0 0 (qK (q_rb b) Q) 33 [(2, 149), (2, 145), (0, w), (4, 0)] [] (q_sh0, q_rb b, m2))
    {P4 : Int → qm → Int → qm → Int → qm → Prop}
    (l4 : ∀ (r1 : Int), ∀ (m1 : qm), P1 r1 m1 → q_in32 r1 → ∀ (r2 : Int), ∀ (m2 : qm), P2 r1 m1 r2 m2 → q_in32 r2 → r2 = 0 → q_Ev yX6_sees cX6_sees 2 (some .boolean) 2 0 0 [(2, 145), (0, 62)] (q_sh0, q_rb b, m2) (qK (q_rb b) (P4 r1 m1 r2 m2)))
    (l5 : ∀ (r1 : Int), ∀ (m1 : qm), P1 r1 m1 → q_in32 r1 → ∀ (r2 : Int), ∀ (m2 : qm), P2 r1 m1 r2 m2 → q_in32 r2 → r2 = 0 → ∀ (r4 : Int), ∀ (m4 : qm), P4 r1 m1 r2 m2 r4 m4 → q_in32 r4 → r4 ≠ 0 → q_At yX2_readComparison cX2_readComparison 4 none (dd + 1) 0 0 (qK (q_rb b) Q) 33 [(2, 149), (2, 145), (0, w), (4, 0)] [] (q_sh0, q_rb b, m4))
    {P6 : Int → qm → Int → qm → Int → qm → Int → qm → Prop}
    (l6 : ∀ (r1 : Int), ∀ (m1 : qm), P1 r1 m1 → q_in32 r1 → ∀ (r2 : Int), ∀ (m2 : qm), P2 r1 m1 r2 m2 → q_in32 r2 → r2 = 0 → ∀ (r4 : Int), ∀ (m4 : qm), P4 r1 m1 r2 m2 r4 m4 → q_in32 r4 → r4 = 0 → q_Ev yX6_sees cX6_sees 2 (some .boolean) 2 0 0 [(2, 145), (0, 61)] (q_sh0, q_rb b, m4) (qK (q_rb b) (P6 r1 m1 r2 m2 r4 m4)))
    (l7 : ∀ (r1 : Int), ∀ (m1 : qm), P1 r1 m1 → q_in32 r1 → ∀ (r2 : Int), ∀ (m2 : qm), P2 r1 m1 r2 m2 → q_in32 r2 → r2 = 0 → ∀ (r4 : Int), ∀ (m4 : qm), P4 r1 m1 r2 m2 r4 m4 → q_in32 r4 → r4 = 0 → ∀ (r6 : Int), ∀ (m6 : qm), P6 r1 m1 r2 m2 r4 m4 r6 m6 → q_in32 r6 → r6 = 0 → Q 0 m6)
    (l8 : ∀ (r1 : Int), ∀ (m1 : qm), P1 r1 m1 → q_in32 r1 → ∀ (r2 : Int), ∀ (m2 : qm), P2 r1 m1 r2 m2 → q_in32 r2 → r2 = 0 → ∀ (r4 : Int), ∀ (m4 : qm), P4 r1 m1 r2 m2 r4 m4 → q_in32 r4 → r4 = 0 → ∀ (r6 : Int), ∀ (m6 : qm), P6 r1 m1 r2 m2 r4 m4 r6 m6 → q_in32 r6 → r6 ≠ 0 → q_At yX2_readComparison cX2_readComparison 4 none (dd + 1) 0 0 (qK (q_rb b) Q) 33 [(2, 149), (2, 145), (0, w), (4, 0)] [] (q_sh0, q_rb b, m6)) :
    q_At yX2_readComparison cX2_readComparison 4 none (dd + 1) 0 0 (qK (q_rb b) Q) 0 [(2, 149), (2, 145), (0, w), (4, 0)] [] (q_sh0, q_rb b, mem) := by
  refine q_aload_n dX2_readComparison_0 rfl rfl ?_
  refine q_aload_n dX2_readComparison_1 rfl rfl ?_
  refine q_iload_n dX2_readComparison_2 rfl rfl ?_
  refine qx_invV (ci := 2) [(2, 145), (0, w)] [(0, w), (2, 145), (2, 149)] rfl qM_X2_readSum dX2_readComparison_3 tw527 rfl qs149 rfl (Nat.ble_eq_true_of_le (by omega)) rfl rfl (l1) (fun r1 m1 p1 q1 => ?_)
  refine q_aload_n dX2_readComparison_6 rfl rfl ?_
  refine qx_bipush dX2_readComparison_7 rfl rfl ?_
  refine qx_invV (ci := 6) [(0, 60)] [(0, 60), (2, 145)] rfl qM_X6_sees dX2_readComparison_9 tw558 rfl qs145 rfl (Nat.ble_eq_true_of_le (by omega)) rfl rfl (l2 r1 m1 p1 q1) (fun r2 m2 p2 q2 => ?_)
  refine qx_if_ne (tgt := 33) dX2_readComparison_12 (by decide) (fun c3 => ?_) (fun c3 => ?_)
  · skip
    exact l3 r1 m1 p1 q1 r2 m2 p2 q2 c3
  · skip
    refine q_aload_n dX2_readComparison_15 rfl rfl ?_
    refine qx_bipush dX2_readComparison_16 rfl rfl ?_
    refine qx_invV (ci := 6) [(0, 62)] [(0, 62), (2, 145)] rfl qM_X6_sees dX2_readComparison_18 tw558 rfl qs145 rfl (Nat.ble_eq_true_of_le (by omega)) rfl rfl (l4 r1 m1 p1 q1 r2 m2 p2 q2 c3) (fun r4 m4 p4 q4 => ?_)
    refine qx_if_ne (tgt := 33) dX2_readComparison_21 (by decide) (fun c5 => ?_) (fun c5 => ?_)
    · skip
      exact l5 r1 m1 p1 q1 r2 m2 p2 q2 c3 r4 m4 p4 q4 c5
    · skip
      refine q_aload_n dX2_readComparison_24 rfl rfl ?_
      refine qx_bipush dX2_readComparison_25 rfl rfl ?_
      refine qx_invV (ci := 6) [(0, 61)] [(0, 61), (2, 145)] rfl qM_X6_sees dX2_readComparison_27 tw558 rfl qs145 rfl (Nat.ble_eq_true_of_le (by omega)) rfl rfl (l6 r1 m1 p1 q1 r2 m2 p2 q2 c3 r4 m4 p4 q4 c5) (fun r6 m6 p6 q6 => ?_)
      refine qx_if_eq (tgt := 53) dX2_readComparison_30 (by decide) (fun c7 => ?_) (fun c7 => ?_)
      · skip
        exact q_vret dX2_readComparison_53 (qK_i (l7 r1 m1 p1 q1 r2 m2 p2 q2 c3 r4 m4 p4 q4 c5 r6 m6 p6 q6 c7))
      · skip
        exact l8 r1 m1 p1 q1 r2 m2 p2 q2 c3 r4 m4 p4 q4 c5 r6 m6 p6 q6 c7
theorem bkX2_readComparison_33 {b : Int} {mem : qm} {Q : Int → qm → Prop}
    {w : Int}
    {dd : Nat}
    (hd9 : 10 ≤ dd)
    {P1 : Int → qm → Prop}
    (l1 : q_Ev yX6_next cX6_next 2 (some .int) 2 0 0 [(2, 145)] (q_sh0, q_rb b, mem) (qK (q_rb b) (P1)))
    {P2 : Int → qm → Int → qm → Prop}
    (l2 : ∀ (r1 : Int), ∀ (m1 : qm), P1 r1 m1 → q_in32 r1 → q_Ev yX2_readSum cX2_readSum 5 none dd 0 0 [(2, 149), (2, 145), (0, w)] (q_sh0, q_rb b, m1) (qK (q_rb b) (P2 r1 m1)))
    (o3 : ∀ (r1 : Int), ∀ (m1 : qm), P1 r1 m1 → q_in32 r1 → ∀ (r2 : Int), ∀ (m2 : qm), P2 r1 m1 r2 m2 → q_in32 r2 → q_in32 (3000 + r1))
    {P3 : Int → qm → Int → qm → Int → qm → Prop}
    (l4 : ∀ (r1 : Int), ∀ (m1 : qm), P1 r1 m1 → q_in32 r1 → ∀ (r2 : Int), ∀ (m2 : qm), P2 r1 m1 r2 m2 → q_in32 r2 → q_Ev yX2_write cX2_write 2 none 1 0 0 [(2, 149), (0, (3000 + r1))] (q_sh0, q_rb b, m2) (qK (q_rb b) (P3 r1 m1 r2 m2)))
    (l5 : ∀ (r1 : Int), ∀ (m1 : qm), P1 r1 m1 → q_in32 r1 → ∀ (r2 : Int), ∀ (m2 : qm), P2 r1 m1 r2 m2 → q_in32 r2 → ∀ (r3 : Int), ∀ (m3 : qm), P3 r1 m1 r2 m2 r3 m3 → q_in32 r3 → Q 0 m3) :
    q_At yX2_readComparison cX2_readComparison 4 none (dd + 1) 0 0 (qK (q_rb b) Q) 33 [(2, 149), (2, 145), (0, w), (4, 0)] [] (q_sh0, q_rb b, mem) := by
  refine q_aload_n dX2_readComparison_33 rfl rfl ?_
  refine qx_invV (ci := 6) [] [(2, 145)] rfl qM_X6_next dX2_readComparison_34 tw562 rfl qs145 rfl (Nat.ble_eq_true_of_le (by omega)) rfl rfl (l1) (fun r1 m1 p1 q1 => ?_)
  refine qx_istore_n (L' := [(2, 149), (2, 145), (0, w), (0, r1)]) dX2_readComparison_37 rfl rfl rfl rfl ?_
  refine q_aload_n dX2_readComparison_38 rfl rfl ?_
  refine q_aload_n dX2_readComparison_39 rfl rfl ?_
  refine q_iload_n dX2_readComparison_40 rfl rfl ?_
  refine qx_invV (ci := 2) [(2, 145), (0, w)] [(0, w), (2, 145), (2, 149)] rfl qM_X2_readSum dX2_readComparison_41 tw527 rfl qs149 rfl (Nat.ble_eq_true_of_le (by omega)) rfl rfl (l2 r1 m1 p1 q1) (fun r2 m2 p2 q2 => ?_)
  refine q_aload_n dX2_readComparison_44 rfl rfl ?_
  refine qx_sipush dX2_readComparison_45 rfl rfl ?_
  refine q_iload_n dX2_readComparison_48 rfl rfl ?_
  refine qx_iadd dX2_readComparison_49 (o3 r1 m1 p1 q1 r2 m2 p2 q2) ?_
  refine qx_invV (ci := 2) [(0, (3000 + r1))] [(0, (3000 + r1)), (2, 149)] rfl qM_X2_write dX2_readComparison_50 tw546 rfl qs149 rfl (Nat.ble_eq_true_of_le (by omega)) rfl rfl (l4 r1 m1 p1 q1 r2 m2 p2 q2) (fun r3 m3 p3 q3 => ?_)
  exact q_vret dX2_readComparison_53 (qK_i (l5 r1 m1 p1 q1 r2 m2 p2 q2 r3 m3 p3 q3))
theorem dX2_read_0 : decode cX2_read 0 = .ok (.aload_n 0, 1) := by decide +kernel
theorem dX2_read_1 : decode cX2_read 1 = .ok (.iconst 0, 1) := by decide +kernel
theorem dX2_read_2 : decode cX2_read 2 = .ok (.putfield 28, 3) := by decide +kernel
theorem dX2_read_5 : decode cX2_read 5 = .ok (.aload_n 1, 1) := by decide +kernel
theorem dX2_read_6 : decode cX2_read 6 = .ok (.bipush 40, 2) := by decide +kernel
theorem dX2_read_8 : decode cX2_read 8 = .ok (.invokevirtual 31, 3) := by decide +kernel
theorem dX2_read_11 : decode cX2_read 11 = .ok (.aload_n 1, 1) := by decide +kernel
theorem dX2_read_12 : decode cX2_read 12 = .ok (.getfield 37, 3) := by decide +kernel
theorem dX2_read_15 : decode cX2_read 15 = .ok (.ifCond .le 9, 3) := by decide +kernel
theorem dX2_read_18 : decode cX2_read 18 = .ok (.aload_n 0, 1) := by decide +kernel
theorem dX2_read_19 : decode cX2_read 19 = .ok (.aload_n 1, 1) := by decide +kernel
theorem dX2_read_20 : decode cX2_read 20 = .ok (.iconst 0, 1) := by decide +kernel
theorem dX2_read_21 : decode cX2_read 21 = .ok (.invokevirtual 38, 3) := by decide +kernel
theorem dX2_read_24 : decode cX2_read 24 = .ok (.aload_n 1, 1) := by decide +kernel
theorem dX2_read_25 : decode cX2_read 25 = .ok (.bipush 40, 2) := by decide +kernel
theorem dX2_read_27 : decode cX2_read 27 = .ok (.invokevirtual 42, 3) := by decide +kernel
theorem dX2_read_30 : decode cX2_read 30 = .ok (.ireturn, 1) := by decide +kernel
theorem bkX2_read_0 {b : Int} {mem : qm} {Q : Int → qm → Prop}
    {P1 : Int → qm → Prop}
    (l1 : q_Ev yX6_open cX6_open 2 none 1 0 0 [(2, 145), (0, 40)] (q_sh0, q_rb b, (q_up mem 149 4 0)) (qK (q_rb b) (P1)))
    {P3 : Int → qm → Int → qm → Prop}
    (l2 : ∀ (r1 : Int), ∀ (m1 : qm), P1 r1 m1 → q_in32 r1 → (m1 145 1) ≤ 0 → q_Ev yX6_close cX6_close 2 (some .int) 2 0 0 [(2, 145), (0, 40)] (q_sh0, q_rb b, m1) (qK (q_rb b) (P3 r1 m1)))
    (l3 : ∀ (r1 : Int), ∀ (m1 : qm), P1 r1 m1 → q_in32 r1 → (m1 145 1) ≤ 0 → ∀ (r3 : Int), ∀ (m3 : qm), P3 r1 m1 r3 m3 → q_in32 r3 → Q r3 m3)
    {P4 : Int → qm → Int → qm → Prop}
    (l4 : ∀ (r1 : Int), ∀ (m1 : qm), P1 r1 m1 → q_in32 r1 → 0 < (m1 145 1) → q_Ev yX2_readComparison cX2_readComparison 4 none 35 0 0 [(2, 149), (2, 145), (0, 0)] (q_sh0, q_rb b, m1) (qK (q_rb b) (P4 r1 m1)))
    {P5 : Int → qm → Int → qm → Int → qm → Prop}
    (l5 : ∀ (r1 : Int), ∀ (m1 : qm), P1 r1 m1 → q_in32 r1 → 0 < (m1 145 1) → ∀ (r4 : Int), ∀ (m4 : qm), P4 r1 m1 r4 m4 → q_in32 r4 → q_Ev yX6_close cX6_close 2 (some .int) 2 0 0 [(2, 145), (0, 40)] (q_sh0, q_rb b, m4) (qK (q_rb b) (P5 r1 m1 r4 m4)))
    (l6 : ∀ (r1 : Int), ∀ (m1 : qm), P1 r1 m1 → q_in32 r1 → 0 < (m1 145 1) → ∀ (r4 : Int), ∀ (m4 : qm), P4 r1 m1 r4 m4 → q_in32 r4 → ∀ (r5 : Int), ∀ (m5 : qm), P5 r1 m1 r4 m4 r5 m5 → q_in32 r5 → Q r5 m5) :
    q_At yX2_read cX2_read 2 (some .int) 36 0 0 (qK (q_rb b) Q) 0 [(2, 149), (2, 145)] [] (q_sh0, q_rb b, mem) := by
  refine q_aload_n dX2_read_0 rfl rfl ?_
  refine qx_iconst dX2_read_1 rfl rfl ?_
  refine q_putI (ci := 2) (k := 4) (kI := 4) (ty := .int) dX2_read_2 rfl (by decide) rfl tw261 rfl rfl rfl (fun _ => ⟨rfl, rfl⟩) qs149 ?_
  refine q_aload_n dX2_read_5 rfl rfl ?_
  refine qx_bipush dX2_read_6 rfl rfl ?_
  refine qx_invV (ci := 6) [(0, 40)] [(0, 40), (2, 145)] rfl qM_X6_open dX2_read_8 tw522 rfl qs145 rfl rfl rfl rfl (l1) (fun r1 m1 p1 q1 => ?_)
  refine q_aload_n dX2_read_11 rfl rfl ?_
  refine qx_getI (ci := 6) (k := 1) (v := (m1 145 1)) dX2_read_12 rfl rfl rfl tw213 rfl qs145 rfl ?_
  refine qx_if_le (tgt := 24) dX2_read_15 (by decide) (fun c2 => ?_) (fun c2 => ?_)
  · skip
    refine q_aload_n dX2_read_24 rfl rfl ?_
    refine qx_bipush dX2_read_25 rfl rfl ?_
    refine qx_invV (ci := 6) [(0, 40)] [(0, 40), (2, 145)] rfl qM_X6_close dX2_read_27 tw566 rfl qs145 rfl rfl rfl rfl (l2 r1 m1 p1 q1 c2) (fun r3 m3 p3 q3 => ?_)
    exact q_iret dX2_read_30 (qK_i (l3 r1 m1 p1 q1 c2 r3 m3 p3 q3))
  · skip
    refine q_aload_n dX2_read_18 rfl rfl ?_
    refine q_aload_n dX2_read_19 rfl rfl ?_
    refine qx_iconst dX2_read_20 rfl rfl ?_
    refine qx_invV (ci := 2) [(2, 145), (0, 0)] [(0, 0), (2, 145), (2, 149)] rfl qM_X2_readComparison dX2_read_21 tw523 rfl qs149 rfl rfl rfl rfl (l4 r1 m1 p1 q1 c2) (fun r4 m4 p4 q4 => ?_)
    refine q_aload_n dX2_read_24 rfl rfl ?_
    refine qx_bipush dX2_read_25 rfl rfl ?_
    refine qx_invV (ci := 6) [(0, 40)] [(0, 40), (2, 145)] rfl qM_X6_close dX2_read_27 tw566 rfl qs145 rfl rfl rfl rfl (l5 r1 m1 p1 q1 c2 r4 m4 p4 q4) (fun r5 m5 p5 q5 => ?_)
    exact q_iret dX2_read_30 (qK_i (l6 r1 m1 p1 q1 c2 r4 m4 p4 q4 r5 m5 p5 q5))
theorem dX11_law_0 : decode cX11_law 0 = .ok (.aload_n 0, 1) := by decide +kernel
theorem dX11_law_1 : decode cX11_law 1 = .ok (.getfield 76, 3) := by decide +kernel
theorem dX11_law_4 : decode cX11_law 4 = .ok (.aload_n 0, 1) := by decide +kernel
theorem dX11_law_5 : decode cX11_law 5 = .ok (.getfield 60, 3) := by decide +kernel
theorem dX11_law_8 : decode cX11_law 8 = .ok (.invokevirtual 125, 3) := by decide +kernel
theorem dX11_law_11 : decode cX11_law 11 = .ok (.istore_n 1, 1) := by decide +kernel
theorem dX11_law_12 : decode cX11_law 12 = .ok (.aload_n 0, 1) := by decide +kernel
theorem dX11_law_13 : decode cX11_law 13 = .ok (.getfield 60, 3) := by decide +kernel
theorem dX11_law_16 : decode cX11_law 16 = .ok (.iconst 0, 1) := by decide +kernel
theorem dX11_law_17 : decode cX11_law 17 = .ok (.putfield 107, 3) := by decide +kernel
theorem dX11_law_20 : decode cX11_law 20 = .ok (.iload_n 1, 1) := by decide +kernel
theorem dX11_law_21 : decode cX11_law 21 = .ok (.ifCond .ne 10, 3) := by decide +kernel
theorem dX11_law_24 : decode cX11_law 24 = .ok (.aload_n 0, 1) := by decide +kernel
theorem dX11_law_25 : decode cX11_law 25 = .ok (.getfield 76, 3) := by decide +kernel
theorem dX11_law_28 : decode cX11_law 28 = .ok (.invokevirtual 128, 3) := by decide +kernel
theorem dX11_law_31 : decode cX11_law 31 = .ok (.iload_n 1, 1) := by decide +kernel
theorem dX11_law_32 : decode cX11_law 32 = .ok (.ireturn, 1) := by decide +kernel
theorem bkX11_law_0 {b : Int} {mem : qm} {Q : Int → qm → Prop}
    {P1 : Int → qm → Prop}
    (l1 : q_Ev yX2_read cX2_read 2 (some .int) 36 0 0 [(2, 149), (2, 145)] (q_sh0, q_rb b, mem) (qK (q_rb b) (P1)))
    (l2 : ∀ (r1 : Int), ∀ (m1 : qm), P1 r1 m1 → q_in32 r1 → r1 ≠ 0 → Q r1 (q_up m1 145 1 0))
    {P3 : Int → qm → Int → qm → Prop}
    (l3 : ∀ (r1 : Int), ∀ (m1 : qm), P1 r1 m1 → q_in32 r1 → r1 = 0 → q_Ev yX2_take cX2_take 1 none 1 0 0 [(2, 149)] (q_sh0, q_rb b, (q_up m1 145 1 0)) (qK (q_rb b) (P3 r1 m1)))
    (l4 : ∀ (r1 : Int), ∀ (m1 : qm), P1 r1 m1 → q_in32 r1 → r1 = 0 → ∀ (r3 : Int), ∀ (m3 : qm), P3 r1 m1 r3 m3 → q_in32 r3 → Q r1 m3) :
    q_At yX11_law cX11_law 2 (some .int) 37 0 0 (qK (q_rb b) Q) 0 [(2, 0), (4, 0)] [] (q_sh0, q_rb b, mem) := by
  refine q_aload_n dX11_law_0 rfl rfl ?_
  refine q_getR (ci := 11) (k := 10) dX11_law_1 rfl (by decide) rfl tw359 (by decide) qs0 qw0_10 (by decide) ?_
  refine q_aload_n dX11_law_4 rfl rfl ?_
  refine q_getR (ci := 11) (k := 8) dX11_law_5 rfl (by decide) rfl tw357 (by decide) qs0 qw0_8 (by decide) ?_
  refine qx_invV (ci := 2) [(2, 145)] [(2, 145), (2, 149)] rfl qM_X2_read dX11_law_8 tw518 rfl qs149 rfl rfl rfl rfl (l1) (fun r1 m1 p1 q1 => ?_)
  refine qx_istore_n (L' := [(2, 0), (0, r1)]) dX11_law_11 rfl rfl rfl rfl ?_
  refine q_aload_n dX11_law_12 rfl rfl ?_
  refine q_getR (ci := 11) (k := 8) dX11_law_13 rfl (by decide) rfl tw357 (by decide) qs0 qw0_8 (by decide) ?_
  refine qx_iconst dX11_law_16 rfl rfl ?_
  refine q_putI (ci := 6) (k := 1) (kI := 1) (ty := .int) dX11_law_17 rfl (by decide) rfl tw211 rfl rfl rfl (fun _ => ⟨rfl, rfl⟩) qs145 ?_
  refine q_iload_n dX11_law_20 rfl rfl ?_
  refine qx_if_ne (tgt := 31) dX11_law_21 (by decide) (fun c2 => ?_) (fun c2 => ?_)
  · skip
    refine q_iload_n dX11_law_31 rfl rfl ?_
    exact q_iret dX11_law_32 (qK_i (l2 r1 m1 p1 q1 c2))
  · skip
    refine q_aload_n dX11_law_24 rfl rfl ?_
    refine q_getR (ci := 11) (k := 10) dX11_law_25 rfl (by decide) rfl tw359 (by decide) qs0 qw0_10 (by decide) ?_
    refine qx_invV (ci := 2) [] [(2, 149)] rfl qM_X2_take dX11_law_28 tw567 rfl qs149 rfl rfl rfl rfl (l3 r1 m1 p1 q1 c2) (fun r3 m3 p3 q3 => ?_)
    refine q_iload_n dX11_law_31 rfl rfl ?_
    exact q_iret dX11_law_32 (qK_i (l4 r1 m1 p1 q1 c2 r3 m3 p3 q3))
