theorem dJ7_fill_53178_0 : decode cJ7_fill_53178 0 = .ok (.iconst 0, 1) := by decide +kernel
theorem dJ7_fill_53178_1 : decode cJ7_fill_53178 1 = .ok (.istore_n 2, 1) := by decide +kernel
theorem dJ7_fill_53178_2 : decode cJ7_fill_53178 2 = .ok (.aload_n 0, 1) := by decide +kernel
theorem dJ7_fill_53178_3 : decode cJ7_fill_53178 3 = .ok (.arraylength, 1) := by decide +kernel
theorem dJ7_fill_53178_4 : decode cJ7_fill_53178 4 = .ok (.istore_n 3, 1) := by decide +kernel
theorem dJ7_fill_53178_5 : decode cJ7_fill_53178 5 = .ok (.iload_n 2, 1) := by decide +kernel
theorem dJ7_fill_53178_6 : decode cJ7_fill_53178 6 = .ok (.iload_n 3, 1) := by decide +kernel
theorem dJ7_fill_53178_7 : decode cJ7_fill_53178 7 = .ok (.if_icmp .ge 13, 3) := by decide +kernel
theorem dJ7_fill_53178_10 : decode cJ7_fill_53178 10 = .ok (.aload_n 0, 1) := by decide +kernel
theorem dJ7_fill_53178_11 : decode cJ7_fill_53178 11 = .ok (.iload_n 2, 1) := by decide +kernel
theorem dJ7_fill_53178_12 : decode cJ7_fill_53178 12 = .ok (.iload_n 1, 1) := by decide +kernel
theorem dJ7_fill_53178_13 : decode cJ7_fill_53178 13 = .ok (.iastore, 1) := by decide +kernel
theorem dJ7_fill_53178_14 : decode cJ7_fill_53178 14 = .ok (.iinc 2 1, 3) := by decide +kernel
theorem dJ7_fill_53178_17 : decode cJ7_fill_53178 17 = .ok (.goto (-12), 3) := by decide +kernel
theorem dJ7_fill_53178_20 : decode cJ7_fill_53178 20 = .ok (.return_, 1) := by decide +kernel
theorem bkJ7_fill_53178_0 {b : Int} {mem : qm} {Q : Int → qm → Prop}
    {x c : Int}
    (hc : q_sh0[c.toNat]? = some (0, 9))
    (l1 : q_At yJ7_fill_53178 cJ7_fill_53178 4 none 1 0 0 (qK (q_rb b) Q) 5 [(2, c), (0, x), (0, 0), (0, 9)] [] (q_sh0, q_rb b, mem)) :
    q_At yJ7_fill_53178 cJ7_fill_53178 4 none 1 0 0 (qK (q_rb b) Q) 0 [(2, c), (0, x), (4, 0), (4, 0)] [] (q_sh0, q_rb b, mem) := by
  refine qx_iconst dJ7_fill_53178_0 rfl rfl ?_
  refine qx_istore_n (L' := [(2, c), (0, x), (0, 0), (4, 0)]) dJ7_fill_53178_1 rfl rfl rfl rfl ?_
  refine q_aload_n dJ7_fill_53178_2 rfl rfl ?_
  refine q_alen0 dJ7_fill_53178_3 hc (by decide) ?_
  refine qx_istore_n (L' := [(2, c), (0, x), (0, 0), (0, 9)]) dJ7_fill_53178_4 rfl rfl rfl rfl ?_
  exact l1
theorem bkJ7_fill_53178_5 {b : Int} {mem : qm} {Q : Int → qm → Prop}
    {x v2 v3 c : Int}
    (hc : q_sh0[c.toNat]? = some (0, 9))
    (l1 : v3 ≤ v2 → Q 0 mem)
    (o2 : v2 < v3 → (0 ≤ v2 ∧ v2 < 9) ∧ q_in32 (v2 + 1))
    (l3 : v2 < v3 → q_At yJ7_fill_53178 cJ7_fill_53178 4 none 1 0 0 (qK (q_rb b) Q) 5 [(2, c), (0, x), (0, (v2 + 1)), (0, v3)] [] (q_sh0, q_rb b, (q_up mem c v2 x))) :
    q_At yJ7_fill_53178 cJ7_fill_53178 4 none 1 0 0 (qK (q_rb b) Q) 5 [(2, c), (0, x), (0, v2), (0, v3)] [] (q_sh0, q_rb b, mem) := by
  refine q_iload_n dJ7_fill_53178_5 rfl rfl ?_
  refine q_iload_n dJ7_fill_53178_6 rfl rfl ?_
  refine qx_icmp_ge (tgt := 20) dJ7_fill_53178_7 (by decide) (fun c1 => ?_) (fun c1 => ?_)
  · skip
    exact q_vret dJ7_fill_53178_20 (qK_i (l1 c1))
  · skip
    refine q_aload_n dJ7_fill_53178_10 rfl rfl ?_
    refine q_iload_n dJ7_fill_53178_11 rfl rfl ?_
    refine q_iload_n dJ7_fill_53178_12 rfl rfl ?_
    refine q_iast dJ7_fill_53178_13 hc ((o2 c1).1).1 ((o2 c1).1).2 ?_
    refine qx_iinc (L' := [(2, c), (0, x), (0, (v2 + 1)), (0, v3)]) dJ7_fill_53178_14 rfl rfl rfl (o2 c1).2 rfl ?_
    refine q_goto (tgt := 5) dJ7_fill_53178_17 (by decide) ?_
    exact l3 c1
theorem dX1_start_0 : decode cX1_start 0 = .ok (.aload_n 1, 1) := by decide +kernel
theorem dX1_start_1 : decode cX1_start 1 = .ok (.getfield 34, 3) := by decide +kernel
theorem dX1_start_4 : decode cX1_start 4 = .ok (.iconst 0, 1) := by decide +kernel
theorem dX1_start_5 : decode cX1_start 5 = .ok (.aload_n 0, 1) := by decide +kernel
theorem dX1_start_6 : decode cX1_start 6 = .ok (.getfield 9, 3) := by decide +kernel
theorem dX1_start_9 : decode cX1_start 9 = .ok (.iconst 0, 1) := by decide +kernel
theorem dX1_start_10 : decode cX1_start 10 = .ok (.bipush 9, 2) := by decide +kernel
theorem dX1_start_12 : decode cX1_start 12 = .ok (.invokestatic 37, 3) := by decide +kernel
theorem dX1_start_15 : decode cX1_start 15 = .ok (.aload_n 1, 1) := by decide +kernel
theorem dX1_start_16 : decode cX1_start 16 = .ok (.getfield 43, 3) := by decide +kernel
theorem dX1_start_19 : decode cX1_start 19 = .ok (.iconst 0, 1) := by decide +kernel
theorem dX1_start_20 : decode cX1_start 20 = .ok (.aload_n 0, 1) := by decide +kernel
theorem dX1_start_21 : decode cX1_start 21 = .ok (.getfield 15, 3) := by decide +kernel
theorem dX1_start_24 : decode cX1_start 24 = .ok (.iconst 0, 1) := by decide +kernel
theorem dX1_start_25 : decode cX1_start 25 = .ok (.bipush 9, 2) := by decide +kernel
theorem dX1_start_27 : decode cX1_start 27 = .ok (.invokestatic 37, 3) := by decide +kernel
theorem dX1_start_30 : decode cX1_start 30 = .ok (.aload_n 1, 1) := by decide +kernel
theorem dX1_start_31 : decode cX1_start 31 = .ok (.getfield 44, 3) := by decide +kernel
theorem dX1_start_34 : decode cX1_start 34 = .ok (.iconst 0, 1) := by decide +kernel
theorem dX1_start_35 : decode cX1_start 35 = .ok (.aload_n 0, 1) := by decide +kernel
theorem dX1_start_36 : decode cX1_start 36 = .ok (.getfield 18, 3) := by decide +kernel
theorem dX1_start_39 : decode cX1_start 39 = .ok (.iconst 0, 1) := by decide +kernel
theorem dX1_start_40 : decode cX1_start 40 = .ok (.bipush 9, 2) := by decide +kernel
theorem dX1_start_42 : decode cX1_start 42 = .ok (.invokestatic 37, 3) := by decide +kernel
theorem dX1_start_45 : decode cX1_start 45 = .ok (.aload_n 1, 1) := by decide +kernel
theorem dX1_start_46 : decode cX1_start 46 = .ok (.getfield 45, 3) := by decide +kernel
theorem dX1_start_49 : decode cX1_start 49 = .ok (.iconst 0, 1) := by decide +kernel
theorem dX1_start_50 : decode cX1_start 50 = .ok (.aload_n 0, 1) := by decide +kernel
theorem dX1_start_51 : decode cX1_start 51 = .ok (.getfield 21, 3) := by decide +kernel
theorem dX1_start_54 : decode cX1_start 54 = .ok (.iconst 0, 1) := by decide +kernel
theorem dX1_start_55 : decode cX1_start 55 = .ok (.bipush 9, 2) := by decide +kernel
theorem dX1_start_57 : decode cX1_start 57 = .ok (.invokestatic 37, 3) := by decide +kernel
theorem dX1_start_60 : decode cX1_start 60 = .ok (.aload_n 0, 1) := by decide +kernel
theorem dX1_start_61 : decode cX1_start 61 = .ok (.getfield 27, 3) := by decide +kernel
theorem dX1_start_64 : decode cX1_start 64 = .ok (.iconst (-1), 1) := by decide +kernel
theorem dX1_start_65 : decode cX1_start 65 = .ok (.invokestatic 46, 3) := by decide +kernel
theorem dX1_start_68 : decode cX1_start 68 = .ok (.aload_n 0, 1) := by decide +kernel
theorem dX1_start_69 : decode cX1_start 69 = .ok (.iconst 0, 1) := by decide +kernel
theorem dX1_start_70 : decode cX1_start 70 = .ok (.putfield 52, 3) := by decide +kernel
theorem dX1_start_73 : decode cX1_start 73 = .ok (.aload_n 0, 1) := by decide +kernel
theorem dX1_start_74 : decode cX1_start 74 = .ok (.iconst 0, 1) := by decide +kernel
theorem dX1_start_75 : decode cX1_start 75 = .ok (.putfield 56, 3) := by decide +kernel
theorem dX1_start_78 : decode cX1_start 78 = .ok (.return_, 1) := by decide +kernel
theorem bkX1_start_0 {b : Int} {mem : qm} {Q : Int → qm → Prop}
    {s : Int}
    (hs : q_st s)
    {P1 : Int → qm → Prop}
    (l1 : q_Ev yJ7_fill_53178 cJ7_fill_53178 4 none 1 0 0 [(2, 32), (0, (-1))] (q_sh0, q_rb b, (q_cp (q_cp (q_cp (q_cp mem (s + 3) 0 27 0 9) (s + 5) 0 28 0 9) (s + 6) 0 29 0 9) (s + 4) 0 30 0 9)) (qK (q_rb b) (P1)))
    (l2 : ∀ (r1 : Int), ∀ (m1 : qm), P1 r1 m1 → q_in32 r1 → Q 0 (q_up (q_up m1 26 7 0) 26 8 0)) :
    q_At yX1_start cX1_start 2 none 2 0 0 (qK (q_rb b) Q) 0 [(2, 26), (2, s)] [] (q_sh0, q_rb b, mem) := by
  refine q_aload_n dX1_start_0 rfl rfl ?_
  refine q_getR (ci := 7) (k := 2) dX1_start_1 rfl (by decide) rfl tw74 (by decide) (qst0 hs) (qsw2 hs) (by have := qst_nn hs; omega) ?_
  refine qx_iconst dX1_start_4 rfl rfl ?_
  refine q_aload_n dX1_start_5 rfl rfl ?_
  refine q_getR (ci := 1) (k := 1) dX1_start_6 rfl (by decide) rfl tw151 (by decide) qs26 qw26_1 (by decide) ?_
  refine qx_iconst dX1_start_9 rfl rfl ?_
  refine qx_bipush dX1_start_10 rfl rfl ?_
  refine q_copy dX1_start_12 tw771 tw423 tw422 tw14 (by decide) (Nat.le_of_ble_eq_true rfl) (qst3 hs) qs27 (by decide) (by decide) (by decide) (by decide) (by decide) ?_
  refine q_aload_n dX1_start_15 rfl rfl ?_
  refine q_getR (ci := 7) (k := 4) dX1_start_16 rfl (by decide) rfl tw85 (by decide) (qst0 hs) (qsw4 hs) (by have := qst_nn hs; omega) ?_
  refine qx_iconst dX1_start_19 rfl rfl ?_
  refine q_aload_n dX1_start_20 rfl rfl ?_
  refine q_getR (ci := 1) (k := 2) dX1_start_21 rfl (by decide) rfl tw154 (by decide) qs26 qw26_2 (by decide) ?_
  refine qx_iconst dX1_start_24 rfl rfl ?_
  refine qx_bipush dX1_start_25 rfl rfl ?_
  refine q_copy dX1_start_27 tw771 tw423 tw422 tw14 (by decide) (Nat.le_of_ble_eq_true rfl) (qst5 hs) qs28 (by decide) (by decide) (by decide) (by decide) (by decide) ?_
  refine q_aload_n dX1_start_30 rfl rfl ?_
  refine q_getR (ci := 7) (k := 5) dX1_start_31 rfl (by decide) rfl tw90 (by decide) (qst0 hs) (qsw5 hs) (by have := qst_nn hs; omega) ?_
  refine qx_iconst dX1_start_34 rfl rfl ?_
  refine q_aload_n dX1_start_35 rfl rfl ?_
  refine q_getR (ci := 1) (k := 3) dX1_start_36 rfl (by decide) rfl tw156 (by decide) qs26 qw26_3 (by decide) ?_
  refine qx_iconst dX1_start_39 rfl rfl ?_
  refine qx_bipush dX1_start_40 rfl rfl ?_
  refine q_copy dX1_start_42 tw771 tw423 tw422 tw14 (by decide) (Nat.le_of_ble_eq_true rfl) (qst6 hs) qs29 (by decide) (by decide) (by decide) (by decide) (by decide) ?_
  refine q_aload_n dX1_start_45 rfl rfl ?_
  refine q_getR (ci := 7) (k := 3) dX1_start_46 rfl (by decide) rfl tw80 (by decide) (qst0 hs) (qsw3 hs) (by have := qst_nn hs; omega) ?_
  refine qx_iconst dX1_start_49 rfl rfl ?_
  refine q_aload_n dX1_start_50 rfl rfl ?_
  refine q_getR (ci := 1) (k := 4) dX1_start_51 rfl (by decide) rfl tw158 (by decide) qs26 qw26_4 (by decide) ?_
  refine qx_iconst dX1_start_54 rfl rfl ?_
  refine qx_bipush dX1_start_55 rfl rfl ?_
  refine q_copy dX1_start_57 tw771 tw423 tw422 tw14 (by decide) (Nat.le_of_ble_eq_true rfl) (qst4 hs) qs30 (by decide) (by decide) (by decide) (by decide) (by decide) ?_
  refine q_aload_n dX1_start_60 rfl rfl ?_
  refine q_getR (ci := 1) (k := 6) dX1_start_61 rfl (by decide) rfl tw160 (by decide) qs26 qw26_6 (by decide) ?_
  refine qx_iconst dX1_start_64 rfl rfl ?_
  refine qx_invS [(2, 32), (0, (-1))] [(0, (-1)), (2, 32)] rfl qM_J7_fill_53178 dX1_start_65 tw772 rfl rfl rfl rfl (l1) (fun r1 m1 p1 q1 => ?_)
  refine q_aload_n dX1_start_68 rfl rfl ?_
  refine qx_iconst dX1_start_69 rfl rfl ?_
  refine q_putI (ci := 1) (k := 7) (kI := 7) (ty := .int) dX1_start_70 rfl (by decide) rfl tw161 rfl rfl rfl (fun _ => ⟨rfl, rfl⟩) qs26 ?_
  refine q_aload_n dX1_start_73 rfl rfl ?_
  refine qx_iconst dX1_start_74 rfl rfl ?_
  refine q_putI (ci := 1) (k := 8) (kI := 8) (ty := .boolean) dX1_start_75 rfl (by decide) rfl tw163 rfl rfl rfl (fun _ => ⟨rfl, rfl⟩) qs26 ?_
  exact q_vret dX1_start_78 (qK_i (l2 r1 m1 p1 q1))
theorem dX1_comeDown_0 : decode cX1_comeDown 0 = .ok (.iload_n 2, 1) := by decide +kernel
theorem dX1_comeDown_1 : decode cX1_comeDown 1 = .ok (.iconst (-1), 1) := by decide +kernel
theorem dX1_comeDown_2 : decode cX1_comeDown 2 = .ok (.if_icmp .ne 7, 3) := by decide +kernel
theorem dX1_comeDown_5 : decode cX1_comeDown 5 = .ok (.iconst 0, 1) := by decide +kernel
theorem dX1_comeDown_6 : decode cX1_comeDown 6 = .ok (.goto 23, 3) := by decide +kernel
theorem dX1_comeDown_9 : decode cX1_comeDown 9 = .ok (.iload_n 1, 1) := by decide +kernel
theorem dX1_comeDown_10 : decode cX1_comeDown 10 = .ok (.aload_n 0, 1) := by decide +kernel
theorem dX1_comeDown_11 : decode cX1_comeDown 11 = .ok (.getfield 30, 3) := by decide +kernel
theorem dX1_comeDown_14 : decode cX1_comeDown 14 = .ok (.getfield 78, 3) := by decide +kernel
theorem dX1_comeDown_17 : decode cX1_comeDown 17 = .ok (.iload_n 2, 1) := by decide +kernel
theorem dX1_comeDown_18 : decode cX1_comeDown 18 = .ok (.iaload, 1) := by decide +kernel
theorem dX1_comeDown_19 : decode cX1_comeDown 19 = .ok (.aload_n 0, 1) := by decide +kernel
theorem dX1_comeDown_20 : decode cX1_comeDown 20 = .ok (.getfield 9, 3) := by decide +kernel
theorem dX1_comeDown_23 : decode cX1_comeDown 23 = .ok (.iload_n 2, 1) := by decide +kernel
theorem dX1_comeDown_24 : decode cX1_comeDown 24 = .ok (.iaload, 1) := by decide +kernel
theorem dX1_comeDown_25 : decode cX1_comeDown 25 = .ok (.isub, 1) := by decide +kernel
theorem dX1_comeDown_26 : decode cX1_comeDown 26 = .ok (.invokestatic 68, 3) := by decide +kernel
theorem dX1_comeDown_29 : decode cX1_comeDown 29 = .ok (.istore_n 3, 1) := by decide +kernel
theorem dX1_comeDown_30 : decode cX1_comeDown 30 = .ok (.iload_n 2, 1) := by decide +kernel
theorem dX1_comeDown_31 : decode cX1_comeDown 31 = .ok (.iconst (-1), 1) := by decide +kernel
theorem dX1_comeDown_32 : decode cX1_comeDown 32 = .ok (.if_icmp .eq 13, 3) := by decide +kernel
theorem dX1_comeDown_35 : decode cX1_comeDown 35 = .ok (.aload_n 0, 1) := by decide +kernel
theorem dX1_comeDown_36 : decode cX1_comeDown 36 = .ok (.getfield 9, 3) := by decide +kernel
theorem dX1_comeDown_39 : decode cX1_comeDown 39 = .ok (.iload_n 2, 1) := by decide +kernel
theorem dX1_comeDown_40 : decode cX1_comeDown 40 = .ok (.dup2, 1) := by decide +kernel
theorem dX1_comeDown_41 : decode cX1_comeDown 41 = .ok (.iaload, 1) := by decide +kernel
theorem dX1_comeDown_42 : decode cX1_comeDown 42 = .ok (.iload_n 3, 1) := by decide +kernel
theorem dX1_comeDown_43 : decode cX1_comeDown 43 = .ok (.iadd, 1) := by decide +kernel
theorem dX1_comeDown_44 : decode cX1_comeDown 44 = .ok (.iastore, 1) := by decide +kernel
theorem dX1_comeDown_45 : decode cX1_comeDown 45 = .ok (.aload_n 0, 1) := by decide +kernel
theorem dX1_comeDown_46 : decode cX1_comeDown 46 = .ok (.dup, 1) := by decide +kernel
theorem dX1_comeDown_47 : decode cX1_comeDown 47 = .ok (.getfield 52, 3) := by decide +kernel
theorem dX1_comeDown_50 : decode cX1_comeDown 50 = .ok (.iload_n 1, 1) := by decide +kernel
theorem dX1_comeDown_51 : decode cX1_comeDown 51 = .ok (.iload_n 3, 1) := by decide +kernel
theorem dX1_comeDown_52 : decode cX1_comeDown 52 = .ok (.isub, 1) := by decide +kernel
theorem dX1_comeDown_53 : decode cX1_comeDown 53 = .ok (.iadd, 1) := by decide +kernel
theorem dX1_comeDown_54 : decode cX1_comeDown 54 = .ok (.putfield 52, 3) := by decide +kernel
theorem dX1_comeDown_57 : decode cX1_comeDown 57 = .ok (.return_, 1) := by decide +kernel
theorem bkX1_comeDown_0 {b : Int} {mem : qm} {Q : Int → qm → Prop}
    {n to : Int}
    (o1 : to ≠ (-1) → (0 ≤ to ∧ to < 9) ∧ q_in32 ((mem 2 to) - (mem 27 to)))
    (o2 : to ≠ (-1) → to = (-1) → q_in32 (n - (min n ((mem 2 to) - (mem 27 to)))) ∧ q_in32 ((mem 26 7) + (n - (min n ((mem 2 to) - (mem 27 to))))))
    (l3 : to ≠ (-1) → to = (-1) → Q 0 (q_up mem 26 7 ((mem 26 7) + (n - (min n ((mem 2 to) - (mem 27 to)))))))
    (o4 : to ≠ (-1) → to ≠ (-1) → q_in32 ((mem 27 to) + (min n ((mem 2 to) - (mem 27 to)))) ∧ q_in32 (n - (min n ((mem 2 to) - (mem 27 to)))) ∧ q_in32 ((mem 26 7) + (n - (min n ((mem 2 to) - (mem 27 to))))))
    (l5 : to ≠ (-1) → to ≠ (-1) → Q 0 (q_up (q_up mem 27 to ((mem 27 to) + (min n ((mem 2 to) - (mem 27 to))))) 26 7 ((mem 26 7) + (n - (min n ((mem 2 to) - (mem 27 to)))))))
    (o6 : to = (-1) → to = (-1) → q_in32 (n - 0) ∧ q_in32 ((mem 26 7) + (n - 0)))
    (l7 : to = (-1) → to = (-1) → Q 0 (q_up mem 26 7 ((mem 26 7) + (n - 0))))
    (o8 : to = (-1) → to ≠ (-1) → (0 ≤ to ∧ to < 9) ∧ q_in32 ((mem 27 to) + 0) ∧ q_in32 (n - 0) ∧ q_in32 ((mem 26 7) + (n - 0)))
    (l9 : to = (-1) → to ≠ (-1) → Q 0 (q_up (q_up mem 27 to ((mem 27 to) + 0)) 26 7 ((mem 26 7) + (n - 0)))) :
    q_At yX1_comeDown cX1_comeDown 4 none 1 0 0 (qK (q_rb b) Q) 0 [(2, 26), (0, n), (0, to), (4, 0)] [] (q_sh0, q_rb b, mem) := by
  refine q_iload_n dX1_comeDown_0 rfl rfl ?_
  refine qx_iconst dX1_comeDown_1 rfl rfl ?_
  refine qx_icmp_ne (tgt := 9) dX1_comeDown_2 (by decide) (fun c1 => ?_) (fun c1 => ?_)
  · skip
    refine q_iload_n dX1_comeDown_9 rfl rfl ?_
    refine q_aload_n dX1_comeDown_10 rfl rfl ?_
    refine q_getR (ci := 1) (k := 0) dX1_comeDown_11 rfl (by decide) rfl tw150 (by decide) qs26 qw26_0 (by decide) ?_
    refine q_getR (ci := 9) (k := 0) dX1_comeDown_14 rfl (by decide) rfl tw38 (by decide) qs1 qw1_0 (by decide) ?_
    refine q_iload_n dX1_comeDown_17 rfl rfl ?_
    refine qx_iald (v := (mem 2 to)) dX1_comeDown_18 qs2 (o1 c1).1 rfl ?_
    refine q_aload_n dX1_comeDown_19 rfl rfl ?_
    refine q_getR (ci := 1) (k := 1) dX1_comeDown_20 rfl (by decide) rfl tw151 (by decide) qs26 qw26_1 (by decide) ?_
    refine q_iload_n dX1_comeDown_23 rfl rfl ?_
    refine qx_iald (v := (mem 27 to)) dX1_comeDown_24 qs27 (o1 c1).1 rfl ?_
    refine qx_isub dX1_comeDown_25 (o1 c1).2 ?_
    refine q_min dX1_comeDown_26 tw787 tw429 tw15 tw430 (by decide) (Nat.le_of_ble_eq_true rfl) ?_
    refine qx_istore_n (L' := [(2, 26), (0, n), (0, to), (0, (min n ((mem 2 to) - (mem 27 to))))]) dX1_comeDown_29 rfl rfl rfl rfl ?_
    refine q_iload_n dX1_comeDown_30 rfl rfl ?_
    refine qx_iconst dX1_comeDown_31 rfl rfl ?_
    refine qx_icmp_eq (tgt := 45) dX1_comeDown_32 (by decide) (fun c2 => ?_) (fun c2 => ?_)
    · skip
      refine q_aload_n dX1_comeDown_45 rfl rfl ?_
      refine q_dup dX1_comeDown_46 (fun h => by cases h) ?_
      refine qx_getI (ci := 1) (k := 7) (v := (mem 26 7)) dX1_comeDown_47 rfl rfl rfl tw161 rfl qs26 rfl ?_
      refine q_iload_n dX1_comeDown_50 rfl rfl ?_
      refine q_iload_n dX1_comeDown_51 rfl rfl ?_
      refine qx_isub dX1_comeDown_52 (o2 c1 c2).1 ?_
      refine qx_iadd dX1_comeDown_53 (o2 c1 c2).2 ?_
      refine q_putI (ci := 1) (k := 7) (kI := 7) (ty := .int) dX1_comeDown_54 rfl (by decide) rfl tw161 rfl rfl rfl (fun _ => ⟨rfl, rfl⟩) qs26 ?_
      exact q_vret dX1_comeDown_57 (qK_i (l3 c1 c2))
    · skip
      refine q_aload_n dX1_comeDown_35 rfl rfl ?_
      refine q_getR (ci := 1) (k := 1) dX1_comeDown_36 rfl (by decide) rfl tw151 (by decide) qs26 qw26_1 (by decide) ?_
      refine q_iload_n dX1_comeDown_39 rfl rfl ?_
      refine q_dup2 dX1_comeDown_40 (fun h => by cases h) (fun h => by cases h) ?_
      refine qx_iald (v := (mem 27 to)) dX1_comeDown_41 qs27 (o1 c1).1 rfl ?_
      refine q_iload_n dX1_comeDown_42 rfl rfl ?_
      refine qx_iadd dX1_comeDown_43 (o4 c1 c2).1 ?_
      refine q_iast dX1_comeDown_44 qs27 ((o1 c1).1).1 ((o1 c1).1).2 ?_
      refine q_aload_n dX1_comeDown_45 rfl rfl ?_
      refine q_dup dX1_comeDown_46 (fun h => by cases h) ?_
      refine qx_getI (ci := 1) (k := 7) (v := (mem 26 7)) dX1_comeDown_47 rfl rfl rfl tw161 rfl qs26 (q_up_c (by decide)) ?_
      refine q_iload_n dX1_comeDown_50 rfl rfl ?_
      refine q_iload_n dX1_comeDown_51 rfl rfl ?_
      refine qx_isub dX1_comeDown_52 (o4 c1 c2).2.1 ?_
      refine qx_iadd dX1_comeDown_53 (o4 c1 c2).2.2 ?_
      refine q_putI (ci := 1) (k := 7) (kI := 7) (ty := .int) dX1_comeDown_54 rfl (by decide) rfl tw161 rfl rfl rfl (fun _ => ⟨rfl, rfl⟩) qs26 ?_
      exact q_vret dX1_comeDown_57 (qK_i (l5 c1 c2))
  · skip
    refine qx_iconst dX1_comeDown_5 rfl rfl ?_
    refine q_goto (tgt := 29) dX1_comeDown_6 (by decide) ?_
    refine qx_istore_n (L' := [(2, 26), (0, n), (0, to), (0, 0)]) dX1_comeDown_29 rfl rfl rfl rfl ?_
    refine q_iload_n dX1_comeDown_30 rfl rfl ?_
    refine qx_iconst dX1_comeDown_31 rfl rfl ?_
    refine qx_icmp_eq (tgt := 45) dX1_comeDown_32 (by decide) (fun c3 => ?_) (fun c3 => ?_)
    · skip
      refine q_aload_n dX1_comeDown_45 rfl rfl ?_
      refine q_dup dX1_comeDown_46 (fun h => by cases h) ?_
      refine qx_getI (ci := 1) (k := 7) (v := (mem 26 7)) dX1_comeDown_47 rfl rfl rfl tw161 rfl qs26 rfl ?_
      refine q_iload_n dX1_comeDown_50 rfl rfl ?_
      refine q_iload_n dX1_comeDown_51 rfl rfl ?_
      refine qx_isub dX1_comeDown_52 (o6 c1 c3).1 ?_
      refine qx_iadd dX1_comeDown_53 (o6 c1 c3).2 ?_
      refine q_putI (ci := 1) (k := 7) (kI := 7) (ty := .int) dX1_comeDown_54 rfl (by decide) rfl tw161 rfl rfl rfl (fun _ => ⟨rfl, rfl⟩) qs26 ?_
      exact q_vret dX1_comeDown_57 (qK_i (l7 c1 c3))
    · skip
      refine q_aload_n dX1_comeDown_35 rfl rfl ?_
      refine q_getR (ci := 1) (k := 1) dX1_comeDown_36 rfl (by decide) rfl tw151 (by decide) qs26 qw26_1 (by decide) ?_
      refine q_iload_n dX1_comeDown_39 rfl rfl ?_
      refine q_dup2 dX1_comeDown_40 (fun h => by cases h) (fun h => by cases h) ?_
      refine qx_iald (v := (mem 27 to)) dX1_comeDown_41 qs27 (o8 c1 c3).1 rfl ?_
      refine q_iload_n dX1_comeDown_42 rfl rfl ?_
      refine qx_iadd dX1_comeDown_43 (o8 c1 c3).2.1 ?_
      refine q_iast dX1_comeDown_44 qs27 ((o8 c1 c3).1).1 ((o8 c1 c3).1).2 ?_
      refine q_aload_n dX1_comeDown_45 rfl rfl ?_
      refine q_dup dX1_comeDown_46 (fun h => by cases h) ?_
      refine qx_getI (ci := 1) (k := 7) (v := (mem 26 7)) dX1_comeDown_47 rfl rfl rfl tw161 rfl qs26 (q_up_c (by decide)) ?_
      refine q_iload_n dX1_comeDown_50 rfl rfl ?_
      refine q_iload_n dX1_comeDown_51 rfl rfl ?_
      refine qx_isub dX1_comeDown_52 (o8 c1 c3).2.2.1 ?_
      refine qx_iadd dX1_comeDown_53 (o8 c1 c3).2.2.2 ?_
      refine q_putI (ci := 1) (k := 7) (kI := 7) (ty := .int) dX1_comeDown_54 rfl (by decide) rfl tw161 rfl rfl rfl (fun _ => ⟨rfl, rfl⟩) qs26 ?_
      exact q_vret dX1_comeDown_57 (qK_i (l9 c1 c3))
theorem dX1_strike_0 : decode cX1_strike 0 = .ok (.iconst 0, 1) := by decide +kernel
theorem dX1_strike_1 : decode cX1_strike 1 = .ok (.istore_n 1, 1) := by decide +kernel
theorem dX1_strike_2 : decode cX1_strike 2 = .ok (.iconst 0, 1) := by decide +kernel
theorem dX1_strike_3 : decode cX1_strike 3 = .ok (.istore_n 2, 1) := by decide +kernel
theorem dX1_strike_4 : decode cX1_strike 4 = .ok (.iload_n 2, 1) := by decide +kernel
theorem dX1_strike_5 : decode cX1_strike 5 = .ok (.aload_n 0, 1) := by decide +kernel
theorem dX1_strike_6 : decode cX1_strike 6 = .ok (.getfield 30, 3) := by decide +kernel
theorem dX1_strike_9 : decode cX1_strike 9 = .ok (.getfield 63, 3) := by decide +kernel
theorem dX1_strike_12 : decode cX1_strike 12 = .ok (.if_icmp .ge 80, 3) := by decide +kernel
theorem dX1_strike_15 : decode cX1_strike 15 = .ok (.iconst 0, 1) := by decide +kernel
theorem dX1_strike_16 : decode cX1_strike 16 = .ok (.istore_n 3, 1) := by decide +kernel
theorem dX1_strike_17 : decode cX1_strike 17 = .ok (.aload_n 0, 1) := by decide +kernel
theorem dX1_strike_18 : decode cX1_strike 18 = .ok (.getfield 21, 3) := by decide +kernel
theorem dX1_strike_21 : decode cX1_strike 21 = .ok (.iload_n 2, 1) := by decide +kernel
theorem dX1_strike_22 : decode cX1_strike 22 = .ok (.iaload, 1) := by decide +kernel
theorem dX1_strike_23 : decode cX1_strike 23 = .ok (.ifCond .le 18, 3) := by decide +kernel
theorem dX1_strike_26 : decode cX1_strike 26 = .ok (.aload_n 0, 1) := by decide +kernel
theorem dX1_strike_27 : decode cX1_strike 27 = .ok (.getfield 21, 3) := by decide +kernel
theorem dX1_strike_30 : decode cX1_strike 30 = .ok (.iload_n 2, 1) := by decide +kernel
theorem dX1_strike_31 : decode cX1_strike 31 = .ok (.dup2, 1) := by decide +kernel
theorem dX1_strike_32 : decode cX1_strike 32 = .ok (.iaload, 1) := by decide +kernel
theorem dX1_strike_33 : decode cX1_strike 33 = .ok (.iconst 1, 1) := by decide +kernel
theorem dX1_strike_34 : decode cX1_strike 34 = .ok (.isub, 1) := by decide +kernel
theorem dX1_strike_35 : decode cX1_strike 35 = .ok (.iastore, 1) := by decide +kernel
theorem dX1_strike_36 : decode cX1_strike 36 = .ok (.iconst 1, 1) := by decide +kernel
theorem dX1_strike_37 : decode cX1_strike 37 = .ok (.istore_n 1, 1) := by decide +kernel
theorem dX1_strike_38 : decode cX1_strike 38 = .ok (.goto 19, 3) := by decide +kernel
theorem dX1_strike_41 : decode cX1_strike 41 = .ok (.aload_n 0, 1) := by decide +kernel
theorem dX1_strike_42 : decode cX1_strike 42 = .ok (.getfield 15, 3) := by decide +kernel
theorem dX1_strike_45 : decode cX1_strike 45 = .ok (.iload_n 2, 1) := by decide +kernel
theorem dX1_strike_46 : decode cX1_strike 46 = .ok (.iaload, 1) := by decide +kernel
theorem dX1_strike_47 : decode cX1_strike 47 = .ok (.aload_n 0, 1) := by decide +kernel
theorem dX1_strike_48 : decode cX1_strike 48 = .ok (.getfield 9, 3) := by decide +kernel
theorem dX1_strike_51 : decode cX1_strike 51 = .ok (.iload_n 2, 1) := by decide +kernel
theorem dX1_strike_52 : decode cX1_strike 52 = .ok (.iaload, 1) := by decide +kernel
theorem dX1_strike_53 : decode cX1_strike 53 = .ok (.invokestatic 68, 3) := by decide +kernel
theorem dX1_strike_56 : decode cX1_strike 56 = .ok (.istore_n 3, 1) := by decide +kernel
theorem dX1_strike_57 : decode cX1_strike 57 = .ok (.aload_n 0, 1) := by decide +kernel
theorem dX1_strike_58 : decode cX1_strike 58 = .ok (.getfield 24, 3) := by decide +kernel
theorem dX1_strike_61 : decode cX1_strike 61 = .ok (.iload_n 2, 1) := by decide +kernel
theorem dX1_strike_62 : decode cX1_strike 62 = .ok (.iload_n 3, 1) := by decide +kernel
theorem dX1_strike_63 : decode cX1_strike 63 = .ok (.iastore, 1) := by decide +kernel
theorem dX1_strike_64 : decode cX1_strike 64 = .ok (.aload_n 0, 1) := by decide +kernel
theorem dX1_strike_65 : decode cX1_strike 65 = .ok (.getfield 9, 3) := by decide +kernel
theorem dX1_strike_68 : decode cX1_strike 68 = .ok (.iload_n 2, 1) := by decide +kernel
theorem dX1_strike_69 : decode cX1_strike 69 = .ok (.dup2, 1) := by decide +kernel
theorem dX1_strike_70 : decode cX1_strike 70 = .ok (.iaload, 1) := by decide +kernel
theorem dX1_strike_71 : decode cX1_strike 71 = .ok (.iload_n 3, 1) := by decide +kernel
theorem dX1_strike_72 : decode cX1_strike 72 = .ok (.isub, 1) := by decide +kernel
theorem dX1_strike_73 : decode cX1_strike 73 = .ok (.iastore, 1) := by decide +kernel
theorem dX1_strike_74 : decode cX1_strike 74 = .ok (.iload_n 1, 1) := by decide +kernel
theorem dX1_strike_75 : decode cX1_strike 75 = .ok (.iload_n 3, 1) := by decide +kernel
theorem dX1_strike_76 : decode cX1_strike 76 = .ok (.ifCond .le 7, 3) := by decide +kernel
theorem dX1_strike_79 : decode cX1_strike 79 = .ok (.iconst 1, 1) := by decide +kernel
theorem dX1_strike_80 : decode cX1_strike 80 = .ok (.goto 4, 3) := by decide +kernel
theorem dX1_strike_83 : decode cX1_strike 83 = .ok (.iconst 0, 1) := by decide +kernel
theorem dX1_strike_84 : decode cX1_strike 84 = .ok (.ior, 1) := by decide +kernel
theorem dX1_strike_85 : decode cX1_strike 85 = .ok (.istore_n 1, 1) := by decide +kernel
theorem dX1_strike_86 : decode cX1_strike 86 = .ok (.iinc 2 1, 3) := by decide +kernel
theorem dX1_strike_89 : decode cX1_strike 89 = .ok (.goto (-85), 3) := by decide +kernel
theorem dX1_strike_92 : decode cX1_strike 92 = .ok (.aload_n 0, 1) := by decide +kernel
theorem dX1_strike_93 : decode cX1_strike 93 = .ok (.iload_n 1, 1) := by decide +kernel
theorem dX1_strike_94 : decode cX1_strike 94 = .ok (.ifCond .ne 7, 3) := by decide +kernel
theorem dX1_strike_97 : decode cX1_strike 97 = .ok (.iconst 1, 1) := by decide +kernel
theorem dX1_strike_98 : decode cX1_strike 98 = .ok (.goto 4, 3) := by decide +kernel
theorem dX1_strike_101 : decode cX1_strike 101 = .ok (.iconst 0, 1) := by decide +kernel
theorem dX1_strike_102 : decode cX1_strike 102 = .ok (.putfield 56, 3) := by decide +kernel
theorem dX1_strike_105 : decode cX1_strike 105 = .ok (.iconst 0, 1) := by decide +kernel
theorem dX1_strike_106 : decode cX1_strike 106 = .ok (.istore_n 2, 1) := by decide +kernel
theorem dX1_strike_107 : decode cX1_strike 107 = .ok (.iload_n 2, 1) := by decide +kernel
theorem dX1_strike_108 : decode cX1_strike 108 = .ok (.aload_n 0, 1) := by decide +kernel
theorem dX1_strike_109 : decode cX1_strike 109 = .ok (.getfield 30, 3) := by decide +kernel
theorem dX1_strike_112 : decode cX1_strike 112 = .ok (.getfield 63, 3) := by decide +kernel
theorem dX1_strike_115 : decode cX1_strike 115 = .ok (.if_icmp .ge 38, 3) := by decide +kernel
theorem dX1_strike_118 : decode cX1_strike 118 = .ok (.iload_n 1, 1) := by decide +kernel
theorem dX1_strike_119 : decode cX1_strike 119 = .ok (.ifCond .eq 34, 3) := by decide +kernel
theorem dX1_strike_122 : decode cX1_strike 122 = .ok (.aload_n 0, 1) := by decide +kernel
theorem dX1_strike_123 : decode cX1_strike 123 = .ok (.getfield 24, 3) := by decide +kernel
theorem dX1_strike_126 : decode cX1_strike 126 = .ok (.iload_n 2, 1) := by decide +kernel
theorem dX1_strike_127 : decode cX1_strike 127 = .ok (.iaload, 1) := by decide +kernel
theorem dX1_strike_128 : decode cX1_strike 128 = .ok (.ifCond .le 19, 3) := by decide +kernel
theorem dX1_strike_131 : decode cX1_strike 131 = .ok (.aload_n 0, 1) := by decide +kernel
theorem dX1_strike_132 : decode cX1_strike 132 = .ok (.aload_n 0, 1) := by decide +kernel
theorem dX1_strike_133 : decode cX1_strike 133 = .ok (.getfield 24, 3) := by decide +kernel
theorem dX1_strike_136 : decode cX1_strike 136 = .ok (.iload_n 2, 1) := by decide +kernel
theorem dX1_strike_137 : decode cX1_strike 137 = .ok (.iaload, 1) := by decide +kernel
theorem dX1_strike_138 : decode cX1_strike 138 = .ok (.aload_n 0, 1) := by decide +kernel
theorem dX1_strike_139 : decode cX1_strike 139 = .ok (.getfield 18, 3) := by decide +kernel
theorem dX1_strike_142 : decode cX1_strike 142 = .ok (.iload_n 2, 1) := by decide +kernel
theorem dX1_strike_143 : decode cX1_strike 143 = .ok (.iaload, 1) := by decide +kernel
theorem dX1_strike_144 : decode cX1_strike 144 = .ok (.invokevirtual 74, 3) := by decide +kernel
theorem dX1_strike_147 : decode cX1_strike 147 = .ok (.iinc 2 1, 3) := by decide +kernel
theorem dX1_strike_150 : decode cX1_strike 150 = .ok (.goto (-43), 3) := by decide +kernel
theorem dX1_strike_153 : decode cX1_strike 153 = .ok (.return_, 1) := by decide +kernel
theorem bkX1_strike_0 {b : Int} {mem : qm} {Q : Int → qm → Prop}
    (l1 : q_At yX1_strike cX1_strike 4 none 2 0 0 (qK (q_rb b) Q) 4 [(2, 26), (0, 0), (0, 0), (4, 0)] [] (q_sh0, q_rb b, mem)) :
    q_At yX1_strike cX1_strike 4 none 2 0 0 (qK (q_rb b) Q) 0 [(2, 26), (4, 0), (4, 0), (4, 0)] [] (q_sh0, q_rb b, mem) := by
  refine qx_iconst dX1_strike_0 rfl rfl ?_
  refine qx_istore_n (L' := [(2, 26), (0, 0), (4, 0), (4, 0)]) dX1_strike_1 rfl rfl rfl rfl ?_
  refine qx_iconst dX1_strike_2 rfl rfl ?_
  refine qx_istore_n (L' := [(2, 26), (0, 0), (0, 0), (4, 0)]) dX1_strike_3 rfl rfl rfl rfl ?_
  exact l1
theorem bkX1_strike_4 {b : Int} {mem : qm} {Q : Int → qm → Prop}
    {v1 v2 : Int}
    (l1 : (mem 1 3) ≤ v2 → v1 ≠ 0 → q_At yX1_strike cX1_strike 4 none 2 0 0 (qK (q_rb b) Q) 107 [(2, 26), (0, v1), (0, 0), (4, 0)] [] (q_sh0, q_rb b, (q_up mem 26 8 0)))
    (l2 : (mem 1 3) ≤ v2 → v1 = 0 → q_At yX1_strike cX1_strike 4 none 2 0 0 (qK (q_rb b) Q) 107 [(2, 26), (0, v1), (0, 0), (4, 0)] [] (q_sh0, q_rb b, (q_up mem 26 8 1)))
    (o3 : v2 < (mem 1 3) → (0 ≤ v2 ∧ v2 < 9))
    (o4 : v2 < (mem 1 3) → (mem 30 v2) ≤ 0 → q_in32 ((mem 27 v2) - (min (mem 28 v2) (mem 27 v2))))
    (o5 : v2 < (mem 1 3) → (mem 30 v2) ≤ 0 → (min (mem 28 v2) (mem 27 v2)) ≤ 0 → q_in32 (v2 + 1))
    (l6 : v2 < (mem 1 3) → (mem 30 v2) ≤ 0 → (min (mem 28 v2) (mem 27 v2)) ≤ 0 → q_At yX1_strike cX1_strike 4 none 2 0 0 (qK (q_rb b) Q) 4 [(2, 26), (0, (q_oior v1 0)), (0, (v2 + 1)), (4, 0)] [] (q_sh0, q_rb b, (q_up (q_up mem 31 v2 (min (mem 28 v2) (mem 27 v2))) 27 v2 ((mem 27 v2) - (min (mem 28 v2) (mem 27 v2))))))
    (o7 : v2 < (mem 1 3) → (mem 30 v2) ≤ 0 → 0 < (min (mem 28 v2) (mem 27 v2)) → q_in32 (v2 + 1))
    (l8 : v2 < (mem 1 3) → (mem 30 v2) ≤ 0 → 0 < (min (mem 28 v2) (mem 27 v2)) → q_At yX1_strike cX1_strike 4 none 2 0 0 (qK (q_rb b) Q) 4 [(2, 26), (0, (q_oior v1 1)), (0, (v2 + 1)), (4, 0)] [] (q_sh0, q_rb b, (q_up (q_up mem 31 v2 (min (mem 28 v2) (mem 27 v2))) 27 v2 ((mem 27 v2) - (min (mem 28 v2) (mem 27 v2))))))
    (o9 : v2 < (mem 1 3) → 0 < (mem 30 v2) → q_in32 ((mem 30 v2) - 1) ∧ q_in32 ((mem 27 v2) - 0) ∧ q_in32 (v2 + 1))
    (l10 : v2 < (mem 1 3) → 0 < (mem 30 v2) → q_At yX1_strike cX1_strike 4 none 2 0 0 (qK (q_rb b) Q) 4 [(2, 26), (0, (q_oior 1 0)), (0, (v2 + 1)), (4, 0)] [] (q_sh0, q_rb b, (q_up (q_up (q_up mem 30 v2 ((mem 30 v2) - 1)) 31 v2 0) 27 v2 ((mem 27 v2) - 0)))) :
    q_At yX1_strike cX1_strike 4 none 2 0 0 (qK (q_rb b) Q) 4 [(2, 26), (0, v1), (0, v2), (4, 0)] [] (q_sh0, q_rb b, mem) := by
  refine q_iload_n dX1_strike_4 rfl rfl ?_
  refine q_aload_n dX1_strike_5 rfl rfl ?_
  refine q_getR (ci := 1) (k := 0) dX1_strike_6 rfl (by decide) rfl tw150 (by decide) qs26 qw26_0 (by decide) ?_
  refine qx_getI (ci := 9) (k := 3) (v := (mem 1 3)) dX1_strike_9 rfl rfl rfl tw51 rfl qs1 rfl ?_
  refine qx_icmp_ge (tgt := 92) dX1_strike_12 (by decide) (fun c1 => ?_) (fun c1 => ?_)
  · skip
    refine q_aload_n dX1_strike_92 rfl rfl ?_
    refine q_iload_n dX1_strike_93 rfl rfl ?_
    refine qx_if_ne (tgt := 101) dX1_strike_94 (by decide) (fun c2 => ?_) (fun c2 => ?_)
    · skip
      refine qx_iconst dX1_strike_101 rfl rfl ?_
      refine q_putI (ci := 1) (k := 8) (kI := 8) (ty := .boolean) dX1_strike_102 rfl (by decide) rfl tw163 rfl rfl rfl (fun _ => ⟨rfl, rfl⟩) qs26 ?_
      refine qx_iconst dX1_strike_105 rfl rfl ?_
      refine qx_istore_n (L' := [(2, 26), (0, v1), (0, 0), (4, 0)]) dX1_strike_106 rfl rfl rfl rfl ?_
      exact l1 c1 c2
    · skip
      refine qx_iconst dX1_strike_97 rfl rfl ?_
      refine q_goto (tgt := 102) dX1_strike_98 (by decide) ?_
      refine q_putI (ci := 1) (k := 8) (kI := 8) (ty := .boolean) dX1_strike_102 rfl (by decide) rfl tw163 rfl rfl rfl (fun _ => ⟨rfl, rfl⟩) qs26 ?_
      refine qx_iconst dX1_strike_105 rfl rfl ?_
      refine qx_istore_n (L' := [(2, 26), (0, v1), (0, 0), (4, 0)]) dX1_strike_106 rfl rfl rfl rfl ?_
      exact l2 c1 c2
  · skip
    refine qx_iconst dX1_strike_15 rfl rfl ?_
    refine qx_istore_n (L' := [(2, 26), (0, v1), (0, v2), (0, 0)]) dX1_strike_16 rfl rfl rfl rfl ?_
    refine q_aload_n dX1_strike_17 rfl rfl ?_
    refine q_getR (ci := 1) (k := 4) dX1_strike_18 rfl (by decide) rfl tw158 (by decide) qs26 qw26_4 (by decide) ?_
    refine q_iload_n dX1_strike_21 rfl rfl ?_
    refine qx_iald (v := (mem 30 v2)) dX1_strike_22 qs30 (o3 c1) rfl ?_
    refine qx_if_le (tgt := 41) dX1_strike_23 (by decide) (fun c3 => ?_) (fun c3 => ?_)
    · skip
      refine q_aload_n dX1_strike_41 rfl rfl ?_
      refine q_getR (ci := 1) (k := 2) dX1_strike_42 rfl (by decide) rfl tw154 (by decide) qs26 qw26_2 (by decide) ?_
      refine q_iload_n dX1_strike_45 rfl rfl ?_
      refine qx_iald (v := (mem 28 v2)) dX1_strike_46 qs28 (o3 c1) rfl ?_
      refine q_aload_n dX1_strike_47 rfl rfl ?_
      refine q_getR (ci := 1) (k := 1) dX1_strike_48 rfl (by decide) rfl tw151 (by decide) qs26 qw26_1 (by decide) ?_
      refine q_iload_n dX1_strike_51 rfl rfl ?_
      refine qx_iald (v := (mem 27 v2)) dX1_strike_52 qs27 (o3 c1) rfl ?_
      refine q_min dX1_strike_53 tw787 tw429 tw15 tw430 (by decide) (Nat.le_of_ble_eq_true rfl) ?_
      refine qx_istore_n (L' := [(2, 26), (0, v1), (0, v2), (0, (min (mem 28 v2) (mem 27 v2)))]) dX1_strike_56 rfl rfl rfl rfl ?_
      refine q_aload_n dX1_strike_57 rfl rfl ?_
      refine q_getR (ci := 1) (k := 5) dX1_strike_58 rfl (by decide) rfl tw159 (by decide) qs26 qw26_5 (by decide) ?_
      refine q_iload_n dX1_strike_61 rfl rfl ?_
      refine q_iload_n dX1_strike_62 rfl rfl ?_
      refine q_iast dX1_strike_63 qs31 ((o3 c1)).1 ((o3 c1)).2 ?_
      refine q_aload_n dX1_strike_64 rfl rfl ?_
      refine q_getR (ci := 1) (k := 1) dX1_strike_65 rfl (by decide) rfl tw151 (by decide) qs26 qw26_1 (by decide) ?_
      refine q_iload_n dX1_strike_68 rfl rfl ?_
      refine q_dup2 dX1_strike_69 (fun h => by cases h) (fun h => by cases h) ?_
      refine qx_iald (v := (mem 27 v2)) dX1_strike_70 qs27 (o3 c1) (q_up_c (by decide)) ?_
      refine q_iload_n dX1_strike_71 rfl rfl ?_
      refine qx_isub dX1_strike_72 (o4 c1 c3) ?_
      refine q_iast dX1_strike_73 qs27 ((o3 c1)).1 ((o3 c1)).2 ?_
      refine q_iload_n dX1_strike_74 rfl rfl ?_
      refine q_iload_n dX1_strike_75 rfl rfl ?_
      refine qx_if_le (tgt := 83) dX1_strike_76 (by decide) (fun c4 => ?_) (fun c4 => ?_)
      · skip
        refine qx_iconst dX1_strike_83 rfl rfl ?_
        refine q_ior dX1_strike_84 ?_
        refine qx_istore_n (L' := [(2, 26), (0, (q_oior v1 0)), (0, v2), (0, (min (mem 28 v2) (mem 27 v2)))]) dX1_strike_85 rfl rfl rfl rfl ?_
        refine qx_iinc (L' := [(2, 26), (0, (q_oior v1 0)), (0, (v2 + 1)), (0, (min (mem 28 v2) (mem 27 v2)))]) dX1_strike_86 rfl rfl rfl (o5 c1 c3 c4) rfl ?_
        refine q_goto (tgt := 4) dX1_strike_89 (by decide) ?_
        refine q_kill (L' := [(2, 26), (0, (q_oior v1 0)), (0, (v2 + 1)), (4, 0)]) 3 rfl ?_
        exact l6 c1 c3 c4
      · skip
        refine qx_iconst dX1_strike_79 rfl rfl ?_
        refine q_goto (tgt := 84) dX1_strike_80 (by decide) ?_
        refine q_ior dX1_strike_84 ?_
        refine qx_istore_n (L' := [(2, 26), (0, (q_oior v1 1)), (0, v2), (0, (min (mem 28 v2) (mem 27 v2)))]) dX1_strike_85 rfl rfl rfl rfl ?_
        refine qx_iinc (L' := [(2, 26), (0, (q_oior v1 1)), (0, (v2 + 1)), (0, (min (mem 28 v2) (mem 27 v2)))]) dX1_strike_86 rfl rfl rfl (o7 c1 c3 c4) rfl ?_
        refine q_goto (tgt := 4) dX1_strike_89 (by decide) ?_
        refine q_kill (L' := [(2, 26), (0, (q_oior v1 1)), (0, (v2 + 1)), (4, 0)]) 3 rfl ?_
        exact l8 c1 c3 c4
    · skip
      refine q_aload_n dX1_strike_26 rfl rfl ?_
      refine q_getR (ci := 1) (k := 4) dX1_strike_27 rfl (by decide) rfl tw158 (by decide) qs26 qw26_4 (by decide) ?_
      refine q_iload_n dX1_strike_30 rfl rfl ?_
      refine q_dup2 dX1_strike_31 (fun h => by cases h) (fun h => by cases h) ?_
      refine qx_iald (v := (mem 30 v2)) dX1_strike_32 qs30 (o3 c1) rfl ?_
      refine qx_iconst dX1_strike_33 rfl rfl ?_
      refine qx_isub dX1_strike_34 (o9 c1 c3).1 ?_
      refine q_iast dX1_strike_35 qs30 ((o3 c1)).1 ((o3 c1)).2 ?_
      refine qx_iconst dX1_strike_36 rfl rfl ?_
      refine qx_istore_n (L' := [(2, 26), (0, 1), (0, v2), (0, 0)]) dX1_strike_37 rfl rfl rfl rfl ?_
      refine q_goto (tgt := 57) dX1_strike_38 (by decide) ?_
      refine q_aload_n dX1_strike_57 rfl rfl ?_
      refine q_getR (ci := 1) (k := 5) dX1_strike_58 rfl (by decide) rfl tw159 (by decide) qs26 qw26_5 (by decide) ?_
      refine q_iload_n dX1_strike_61 rfl rfl ?_
      refine q_iload_n dX1_strike_62 rfl rfl ?_
      refine q_iast dX1_strike_63 qs31 ((o3 c1)).1 ((o3 c1)).2 ?_
      refine q_aload_n dX1_strike_64 rfl rfl ?_
      refine q_getR (ci := 1) (k := 1) dX1_strike_65 rfl (by decide) rfl tw151 (by decide) qs26 qw26_1 (by decide) ?_
      refine q_iload_n dX1_strike_68 rfl rfl ?_
      refine q_dup2 dX1_strike_69 (fun h => by cases h) (fun h => by cases h) ?_
      refine qx_iald (v := (mem 27 v2)) dX1_strike_70 qs27 (o3 c1) ((q_up_c (by decide)).trans (q_up_c (by decide))) ?_
      refine q_iload_n dX1_strike_71 rfl rfl ?_
      refine qx_isub dX1_strike_72 (o9 c1 c3).2.1 ?_
      refine q_iast dX1_strike_73 qs27 ((o3 c1)).1 ((o3 c1)).2 ?_
      refine q_iload_n dX1_strike_74 rfl rfl ?_
      refine q_iload_n dX1_strike_75 rfl rfl ?_
      refine qx_if_le (tgt := 83) dX1_strike_76 (by decide) (fun _ => ?_) (fun z => absurd z (by decide))
      refine qx_iconst dX1_strike_83 rfl rfl ?_
      refine q_ior dX1_strike_84 ?_
      refine qx_istore_n (L' := [(2, 26), (0, (q_oior 1 0)), (0, v2), (0, 0)]) dX1_strike_85 rfl rfl rfl rfl ?_
      refine qx_iinc (L' := [(2, 26), (0, (q_oior 1 0)), (0, (v2 + 1)), (0, 0)]) dX1_strike_86 rfl rfl rfl (o9 c1 c3).2.2 rfl ?_
      refine q_goto (tgt := 4) dX1_strike_89 (by decide) ?_
      refine q_kill (L' := [(2, 26), (0, (q_oior 1 0)), (0, (v2 + 1)), (4, 0)]) 3 rfl ?_
      exact l10 c1 c3
theorem bkX1_strike_107 {b : Int} {mem : qm} {Q : Int → qm → Prop}
    {v1 v2 : Int}
    (l1 : (mem 1 3) ≤ v2 → Q 0 mem)
    (l2 : v2 < (mem 1 3) → v1 = 0 → Q 0 mem)
    (o3 : v2 < (mem 1 3) → v1 ≠ 0 → (0 ≤ v2 ∧ v2 < 9))
    (o4 : v2 < (mem 1 3) → v1 ≠ 0 → (mem 31 v2) ≤ 0 → q_in32 (v2 + 1))
    (l5 : v2 < (mem 1 3) → v1 ≠ 0 → (mem 31 v2) ≤ 0 → q_At yX1_strike cX1_strike 4 none 2 0 0 (qK (q_rb b) Q) 107 [(2, 26), (0, v1), (0, (v2 + 1)), (4, 0)] [] (q_sh0, q_rb b, mem))
    {P4 : Int → qm → Prop}
    (l6 : v2 < (mem 1 3) → v1 ≠ 0 → 0 < (mem 31 v2) → q_Ev yX1_comeDown cX1_comeDown 4 none 1 0 0 [(2, 26), (0, (mem 31 v2)), (0, (mem 29 v2))] (q_sh0, q_rb b, mem) (qK (q_rb b) (P4)))
    (o7 : v2 < (mem 1 3) → v1 ≠ 0 → 0 < (mem 31 v2) → ∀ (r4 : Int), ∀ (m4 : qm), P4 r4 m4 → q_in32 r4 → q_in32 (v2 + 1))
    (l8 : v2 < (mem 1 3) → v1 ≠ 0 → 0 < (mem 31 v2) → ∀ (r4 : Int), ∀ (m4 : qm), P4 r4 m4 → q_in32 r4 → q_At yX1_strike cX1_strike 4 none 2 0 0 (qK (q_rb b) Q) 107 [(2, 26), (0, v1), (0, (v2 + 1)), (4, 0)] [] (q_sh0, q_rb b, m4)) :
    q_At yX1_strike cX1_strike 4 none 2 0 0 (qK (q_rb b) Q) 107 [(2, 26), (0, v1), (0, v2), (4, 0)] [] (q_sh0, q_rb b, mem) := by
  refine q_iload_n dX1_strike_107 rfl rfl ?_
  refine q_aload_n dX1_strike_108 rfl rfl ?_
  refine q_getR (ci := 1) (k := 0) dX1_strike_109 rfl (by decide) rfl tw150 (by decide) qs26 qw26_0 (by decide) ?_
  refine qx_getI (ci := 9) (k := 3) (v := (mem 1 3)) dX1_strike_112 rfl rfl rfl tw51 rfl qs1 rfl ?_
  refine qx_icmp_ge (tgt := 153) dX1_strike_115 (by decide) (fun c1 => ?_) (fun c1 => ?_)
  · skip
    exact q_vret dX1_strike_153 (qK_i (l1 c1))
  · skip
    refine q_iload_n dX1_strike_118 rfl rfl ?_
    refine qx_if_eq (tgt := 153) dX1_strike_119 (by decide) (fun c2 => ?_) (fun c2 => ?_)
    · skip
      exact q_vret dX1_strike_153 (qK_i (l2 c1 c2))
    · skip
      refine q_aload_n dX1_strike_122 rfl rfl ?_
      refine q_getR (ci := 1) (k := 5) dX1_strike_123 rfl (by decide) rfl tw159 (by decide) qs26 qw26_5 (by decide) ?_
      refine q_iload_n dX1_strike_126 rfl rfl ?_
      refine qx_iald (v := (mem 31 v2)) dX1_strike_127 qs31 (o3 c1 c2) rfl ?_
      refine qx_if_le (tgt := 147) dX1_strike_128 (by decide) (fun c3 => ?_) (fun c3 => ?_)
      · skip
        refine qx_iinc (L' := [(2, 26), (0, v1), (0, (v2 + 1)), (4, 0)]) dX1_strike_147 rfl rfl rfl (o4 c1 c2 c3) rfl ?_
        refine q_goto (tgt := 107) dX1_strike_150 (by decide) ?_
        exact l5 c1 c2 c3
      · skip
        refine q_aload_n dX1_strike_131 rfl rfl ?_
        refine q_aload_n dX1_strike_132 rfl rfl ?_
        refine q_getR (ci := 1) (k := 5) dX1_strike_133 rfl (by decide) rfl tw159 (by decide) qs26 qw26_5 (by decide) ?_
        refine q_iload_n dX1_strike_136 rfl rfl ?_
        refine qx_iald (v := (mem 31 v2)) dX1_strike_137 qs31 (o3 c1 c2) rfl ?_
        refine q_aload_n dX1_strike_138 rfl rfl ?_
        refine q_getR (ci := 1) (k := 3) dX1_strike_139 rfl (by decide) rfl tw156 (by decide) qs26 qw26_3 (by decide) ?_
        refine q_iload_n dX1_strike_142 rfl rfl ?_
        refine qx_iald (v := (mem 29 v2)) dX1_strike_143 qs29 (o3 c1 c2) rfl ?_
        refine qx_invV (ci := 1) [(0, (mem 31 v2)), (0, (mem 29 v2))] [(0, (mem 29 v2)), (0, (mem 31 v2)), (2, 26)] rfl qM_X1_comeDown dX1_strike_144 tw788 rfl qs26 rfl rfl rfl rfl (l6 c1 c2 c3) (fun r4 m4 p4 q4 => ?_)
        refine qx_iinc (L' := [(2, 26), (0, v1), (0, (v2 + 1)), (4, 0)]) dX1_strike_147 rfl rfl rfl (o7 c1 c2 c3 r4 m4 p4 q4) rfl ?_
        refine q_goto (tgt := 107) dX1_strike_150 (by decide) ?_
        exact l8 c1 c2 c3 r4 m4 p4 q4
theorem dX1_strikeAll_0 : decode cX1_strikeAll 0 = .ok (.iconst 0, 1) := by decide +kernel
theorem dX1_strikeAll_1 : decode cX1_strikeAll 1 = .ok (.istore_n 2, 1) := by decide +kernel
theorem dX1_strikeAll_2 : decode cX1_strikeAll 2 = .ok (.iload_n 2, 1) := by decide +kernel
theorem dX1_strikeAll_3 : decode cX1_strikeAll 3 = .ok (.iload_n 1, 1) := by decide +kernel
theorem dX1_strikeAll_4 : decode cX1_strikeAll 4 = .ok (.if_icmp .ge 20, 3) := by decide +kernel
theorem dX1_strikeAll_7 : decode cX1_strikeAll 7 = .ok (.aload_n 0, 1) := by decide +kernel
theorem dX1_strikeAll_8 : decode cX1_strikeAll 8 = .ok (.getfield 56, 3) := by decide +kernel
theorem dX1_strikeAll_11 : decode cX1_strikeAll 11 = .ok (.ifCond .ne 13, 3) := by decide +kernel
theorem dX1_strikeAll_14 : decode cX1_strikeAll 14 = .ok (.aload_n 0, 1) := by decide +kernel
theorem dX1_strikeAll_15 : decode cX1_strikeAll 15 = .ok (.invokevirtual 60, 3) := by decide +kernel
theorem dX1_strikeAll_18 : decode cX1_strikeAll 18 = .ok (.iinc 2 1, 3) := by decide +kernel
theorem dX1_strikeAll_21 : decode cX1_strikeAll 21 = .ok (.goto (-19), 3) := by decide +kernel
theorem dX1_strikeAll_24 : decode cX1_strikeAll 24 = .ok (.return_, 1) := by decide +kernel
theorem bkX1_strikeAll_0 {b : Int} {mem : qm} {Q : Int → qm → Prop}
    {n : Int}
    (l1 : q_At yX1_strikeAll cX1_strikeAll 3 none 3 0 0 (qK (q_rb b) Q) 2 [(2, 26), (0, n), (0, 0)] [] (q_sh0, q_rb b, mem)) :
    q_At yX1_strikeAll cX1_strikeAll 3 none 3 0 0 (qK (q_rb b) Q) 0 [(2, 26), (0, n), (4, 0)] [] (q_sh0, q_rb b, mem) := by
  refine qx_iconst dX1_strikeAll_0 rfl rfl ?_
  refine qx_istore_n (L' := [(2, 26), (0, n), (0, 0)]) dX1_strikeAll_1 rfl rfl rfl rfl ?_
  exact l1
theorem bkX1_strikeAll_2 {b : Int} {mem : qm} {Q : Int → qm → Prop}
    {n v2 : Int}
    (l1 : n ≤ v2 → Q 0 mem)
    (l2 : v2 < n → (mem 26 8) ≠ 0 → Q 0 mem)
    {P3 : Int → qm → Prop}
    (l3 : v2 < n → (mem 26 8) = 0 → q_Ev yX1_strike cX1_strike 4 none 2 0 0 [(2, 26)] (q_sh0, q_rb b, mem) (qK (q_rb b) (P3)))
    (o4 : v2 < n → (mem 26 8) = 0 → ∀ (r3 : Int), ∀ (m3 : qm), P3 r3 m3 → q_in32 r3 → q_in32 (v2 + 1))
    (l5 : v2 < n → (mem 26 8) = 0 → ∀ (r3 : Int), ∀ (m3 : qm), P3 r3 m3 → q_in32 r3 → q_At yX1_strikeAll cX1_strikeAll 3 none 3 0 0 (qK (q_rb b) Q) 2 [(2, 26), (0, n), (0, (v2 + 1))] [] (q_sh0, q_rb b, m3)) :
    q_At yX1_strikeAll cX1_strikeAll 3 none 3 0 0 (qK (q_rb b) Q) 2 [(2, 26), (0, n), (0, v2)] [] (q_sh0, q_rb b, mem) := by
  refine q_iload_n dX1_strikeAll_2 rfl rfl ?_
  refine q_iload_n dX1_strikeAll_3 rfl rfl ?_
  refine qx_icmp_ge (tgt := 24) dX1_strikeAll_4 (by decide) (fun c1 => ?_) (fun c1 => ?_)
  · skip
    exact q_vret dX1_strikeAll_24 (qK_i (l1 c1))
  · skip
    refine q_aload_n dX1_strikeAll_7 rfl rfl ?_
    refine qx_getI (ci := 1) (k := 8) (v := (mem 26 8)) dX1_strikeAll_8 rfl rfl rfl tw163 rfl qs26 rfl ?_
    refine qx_if_ne (tgt := 24) dX1_strikeAll_11 (by decide) (fun c2 => ?_) (fun c2 => ?_)
    · skip
      exact q_vret dX1_strikeAll_24 (qK_i (l2 c1 c2))
    · skip
      refine q_aload_n dX1_strikeAll_14 rfl rfl ?_
      refine qx_invV (ci := 1) [] [(2, 26)] rfl qM_X1_strike dX1_strikeAll_15 tw808 rfl qs26 rfl rfl rfl rfl (l3 c1 c2) (fun r3 m3 p3 q3 => ?_)
      refine qx_iinc (L' := [(2, 26), (0, n), (0, (v2 + 1))]) dX1_strikeAll_18 rfl rfl rfl (o4 c1 c2 r3 m3 p3 q3) rfl ?_
      refine q_goto (tgt := 2) dX1_strikeAll_21 (by decide) ?_
      exact l5 c1 c2 r3 m3 p3 q3
theorem dX1_isQuiet_0 : decode cX1_isQuiet 0 = .ok (.iconst 0, 1) := by decide +kernel
theorem dX1_isQuiet_1 : decode cX1_isQuiet 1 = .ok (.istore_n 1, 1) := by decide +kernel
theorem dX1_isQuiet_2 : decode cX1_isQuiet 2 = .ok (.iload_n 1, 1) := by decide +kernel
theorem dX1_isQuiet_3 : decode cX1_isQuiet 3 = .ok (.aload_n 0, 1) := by decide +kernel
theorem dX1_isQuiet_4 : decode cX1_isQuiet 4 = .ok (.getfield 30, 3) := by decide +kernel
theorem dX1_isQuiet_7 : decode cX1_isQuiet 7 = .ok (.getfield 63, 3) := by decide +kernel
theorem dX1_isQuiet_10 : decode cX1_isQuiet 10 = .ok (.if_icmp .ge 29, 3) := by decide +kernel
theorem dX1_isQuiet_13 : decode cX1_isQuiet 13 = .ok (.aload_n 0, 1) := by decide +kernel
theorem dX1_isQuiet_14 : decode cX1_isQuiet 14 = .ok (.getfield 9, 3) := by decide +kernel
theorem dX1_isQuiet_17 : decode cX1_isQuiet 17 = .ok (.iload_n 1, 1) := by decide +kernel
theorem dX1_isQuiet_18 : decode cX1_isQuiet 18 = .ok (.iaload, 1) := by decide +kernel
theorem dX1_isQuiet_19 : decode cX1_isQuiet 19 = .ok (.ifCond .le 14, 3) := by decide +kernel
theorem dX1_isQuiet_22 : decode cX1_isQuiet 22 = .ok (.aload_n 0, 1) := by decide +kernel
theorem dX1_isQuiet_23 : decode cX1_isQuiet 23 = .ok (.getfield 15, 3) := by decide +kernel
theorem dX1_isQuiet_26 : decode cX1_isQuiet 26 = .ok (.iload_n 1, 1) := by decide +kernel
theorem dX1_isQuiet_27 : decode cX1_isQuiet 27 = .ok (.iaload, 1) := by decide +kernel
theorem dX1_isQuiet_28 : decode cX1_isQuiet 28 = .ok (.ifCond .le 5, 3) := by decide +kernel
theorem dX1_isQuiet_31 : decode cX1_isQuiet 31 = .ok (.iconst 0, 1) := by decide +kernel
theorem dX1_isQuiet_32 : decode cX1_isQuiet 32 = .ok (.ireturn, 1) := by decide +kernel
theorem dX1_isQuiet_33 : decode cX1_isQuiet 33 = .ok (.iinc 1 1, 3) := by decide +kernel
theorem dX1_isQuiet_36 : decode cX1_isQuiet 36 = .ok (.goto (-34), 3) := by decide +kernel
theorem dX1_isQuiet_39 : decode cX1_isQuiet 39 = .ok (.iconst 1, 1) := by decide +kernel
theorem dX1_isQuiet_40 : decode cX1_isQuiet 40 = .ok (.ireturn, 1) := by decide +kernel
theorem bkX1_isQuiet_0 {b : Int} {mem : qm} {Q : Int → qm → Prop}
    (l1 : q_At yX1_isQuiet cX1_isQuiet 2 (some .boolean) 1 0 0 (qK (q_rb b) Q) 2 [(2, 26), (0, 0)] [] (q_sh0, q_rb b, mem)) :
    q_At yX1_isQuiet cX1_isQuiet 2 (some .boolean) 1 0 0 (qK (q_rb b) Q) 0 [(2, 26), (4, 0)] [] (q_sh0, q_rb b, mem) := by
  refine qx_iconst dX1_isQuiet_0 rfl rfl ?_
  refine qx_istore_n (L' := [(2, 26), (0, 0)]) dX1_isQuiet_1 rfl rfl rfl rfl ?_
  exact l1
theorem bkX1_isQuiet_2 {b : Int} {mem : qm} {Q : Int → qm → Prop}
    {v1 : Int}
    (l1 : (mem 1 3) ≤ v1 → Q 1 mem)
    (o2 : v1 < (mem 1 3) → (0 ≤ v1 ∧ v1 < 9))
    (o3 : v1 < (mem 1 3) → (mem 27 v1) ≤ 0 → q_in32 (v1 + 1))
    (l4 : v1 < (mem 1 3) → (mem 27 v1) ≤ 0 → q_At yX1_isQuiet cX1_isQuiet 2 (some .boolean) 1 0 0 (qK (q_rb b) Q) 2 [(2, 26), (0, (v1 + 1))] [] (q_sh0, q_rb b, mem))
    (o5 : v1 < (mem 1 3) → 0 < (mem 27 v1) → (mem 28 v1) ≤ 0 → q_in32 (v1 + 1))
    (l6 : v1 < (mem 1 3) → 0 < (mem 27 v1) → (mem 28 v1) ≤ 0 → q_At yX1_isQuiet cX1_isQuiet 2 (some .boolean) 1 0 0 (qK (q_rb b) Q) 2 [(2, 26), (0, (v1 + 1))] [] (q_sh0, q_rb b, mem))
    (l7 : v1 < (mem 1 3) → 0 < (mem 27 v1) → 0 < (mem 28 v1) → Q 0 mem) :
    q_At yX1_isQuiet cX1_isQuiet 2 (some .boolean) 1 0 0 (qK (q_rb b) Q) 2 [(2, 26), (0, v1)] [] (q_sh0, q_rb b, mem) := by
  refine q_iload_n dX1_isQuiet_2 rfl rfl ?_
  refine q_aload_n dX1_isQuiet_3 rfl rfl ?_
  refine q_getR (ci := 1) (k := 0) dX1_isQuiet_4 rfl (by decide) rfl tw150 (by decide) qs26 qw26_0 (by decide) ?_
  refine qx_getI (ci := 9) (k := 3) (v := (mem 1 3)) dX1_isQuiet_7 rfl rfl rfl tw51 rfl qs1 rfl ?_
  refine qx_icmp_ge (tgt := 39) dX1_isQuiet_10 (by decide) (fun c1 => ?_) (fun c1 => ?_)
  · skip
    refine qx_iconst dX1_isQuiet_39 rfl rfl ?_
    exact q_zret dX1_isQuiet_40 (by decide) (qK_i (l1 c1))
  · skip
    refine q_aload_n dX1_isQuiet_13 rfl rfl ?_
    refine q_getR (ci := 1) (k := 1) dX1_isQuiet_14 rfl (by decide) rfl tw151 (by decide) qs26 qw26_1 (by decide) ?_
    refine q_iload_n dX1_isQuiet_17 rfl rfl ?_
    refine qx_iald (v := (mem 27 v1)) dX1_isQuiet_18 qs27 (o2 c1) rfl ?_
    refine qx_if_le (tgt := 33) dX1_isQuiet_19 (by decide) (fun c2 => ?_) (fun c2 => ?_)
    · skip
      refine qx_iinc (L' := [(2, 26), (0, (v1 + 1))]) dX1_isQuiet_33 rfl rfl rfl (o3 c1 c2) rfl ?_
      refine q_goto (tgt := 2) dX1_isQuiet_36 (by decide) ?_
      exact l4 c1 c2
    · skip
      refine q_aload_n dX1_isQuiet_22 rfl rfl ?_
      refine q_getR (ci := 1) (k := 2) dX1_isQuiet_23 rfl (by decide) rfl tw154 (by decide) qs26 qw26_2 (by decide) ?_
      refine q_iload_n dX1_isQuiet_26 rfl rfl ?_
      refine qx_iald (v := (mem 28 v1)) dX1_isQuiet_27 qs28 (o2 c1) rfl ?_
      refine qx_if_le (tgt := 33) dX1_isQuiet_28 (by decide) (fun c3 => ?_) (fun c3 => ?_)
      · skip
        refine qx_iinc (L' := [(2, 26), (0, (v1 + 1))]) dX1_isQuiet_33 rfl rfl rfl (o5 c1 c2 c3) rfl ?_
        refine q_goto (tgt := 2) dX1_isQuiet_36 (by decide) ?_
        exact l6 c1 c2 c3
      · skip
        refine qx_iconst dX1_isQuiet_31 rfl rfl ?_
        exact q_zret dX1_isQuiet_32 (by decide) (qK_i (l7 c1 c2 c3))
theorem dX1_noteWet_0 : decode cX1_noteWet 0 = .ok (.iconst 0, 1) := by decide +kernel
theorem dX1_noteWet_1 : decode cX1_noteWet 1 = .ok (.istore_n 2, 1) := by decide +kernel
theorem dX1_noteWet_2 : decode cX1_noteWet 2 = .ok (.iload_n 2, 1) := by decide +kernel
theorem dX1_noteWet_3 : decode cX1_noteWet 3 = .ok (.aload_n 0, 1) := by decide +kernel
theorem dX1_noteWet_4 : decode cX1_noteWet 4 = .ok (.getfield 30, 3) := by decide +kernel
theorem dX1_noteWet_7 : decode cX1_noteWet 7 = .ok (.getfield 63, 3) := by decide +kernel
theorem dX1_noteWet_10 : decode cX1_noteWet 10 = .ok (.if_icmp .ge 25, 3) := by decide +kernel
theorem dX1_noteWet_13 : decode cX1_noteWet 13 = .ok (.aload_n 0, 1) := by decide +kernel
theorem dX1_noteWet_14 : decode cX1_noteWet 14 = .ok (.getfield 9, 3) := by decide +kernel
theorem dX1_noteWet_17 : decode cX1_noteWet 17 = .ok (.iload_n 2, 1) := by decide +kernel
theorem dX1_noteWet_18 : decode cX1_noteWet 18 = .ok (.iaload, 1) := by decide +kernel
theorem dX1_noteWet_19 : decode cX1_noteWet 19 = .ok (.ifCond .le 10, 3) := by decide +kernel
theorem dX1_noteWet_22 : decode cX1_noteWet 22 = .ok (.aload_n 0, 1) := by decide +kernel
theorem dX1_noteWet_23 : decode cX1_noteWet 23 = .ok (.getfield 27, 3) := by decide +kernel
theorem dX1_noteWet_26 : decode cX1_noteWet 26 = .ok (.iload_n 2, 1) := by decide +kernel
theorem dX1_noteWet_27 : decode cX1_noteWet 27 = .ok (.iload_n 1, 1) := by decide +kernel
theorem dX1_noteWet_28 : decode cX1_noteWet 28 = .ok (.iastore, 1) := by decide +kernel
theorem dX1_noteWet_29 : decode cX1_noteWet 29 = .ok (.iinc 2 1, 3) := by decide +kernel
theorem dX1_noteWet_32 : decode cX1_noteWet 32 = .ok (.goto (-30), 3) := by decide +kernel
theorem dX1_noteWet_35 : decode cX1_noteWet 35 = .ok (.return_, 1) := by decide +kernel
theorem bkX1_noteWet_0 {b : Int} {mem : qm} {Q : Int → qm → Prop}
    {n : Int}
    (l1 : q_At yX1_noteWet cX1_noteWet 3 none 1 0 0 (qK (q_rb b) Q) 2 [(2, 26), (0, n), (0, 0)] [] (q_sh0, q_rb b, mem)) :
    q_At yX1_noteWet cX1_noteWet 3 none 1 0 0 (qK (q_rb b) Q) 0 [(2, 26), (0, n), (4, 0)] [] (q_sh0, q_rb b, mem) := by
  refine qx_iconst dX1_noteWet_0 rfl rfl ?_
  refine qx_istore_n (L' := [(2, 26), (0, n), (0, 0)]) dX1_noteWet_1 rfl rfl rfl rfl ?_
  exact l1
theorem bkX1_noteWet_2 {b : Int} {mem : qm} {Q : Int → qm → Prop}
    {n v2 : Int}
    (l1 : (mem 1 3) ≤ v2 → Q 0 mem)
    (o2 : v2 < (mem 1 3) → (0 ≤ v2 ∧ v2 < 9))
    (o3 : v2 < (mem 1 3) → (mem 27 v2) ≤ 0 → q_in32 (v2 + 1))
    (l4 : v2 < (mem 1 3) → (mem 27 v2) ≤ 0 → q_At yX1_noteWet cX1_noteWet 3 none 1 0 0 (qK (q_rb b) Q) 2 [(2, 26), (0, n), (0, (v2 + 1))] [] (q_sh0, q_rb b, mem))
    (o5 : v2 < (mem 1 3) → 0 < (mem 27 v2) → q_in32 (v2 + 1))
    (l6 : v2 < (mem 1 3) → 0 < (mem 27 v2) → q_At yX1_noteWet cX1_noteWet 3 none 1 0 0 (qK (q_rb b) Q) 2 [(2, 26), (0, n), (0, (v2 + 1))] [] (q_sh0, q_rb b, (q_up mem 32 v2 n))) :
    q_At yX1_noteWet cX1_noteWet 3 none 1 0 0 (qK (q_rb b) Q) 2 [(2, 26), (0, n), (0, v2)] [] (q_sh0, q_rb b, mem) := by
  refine q_iload_n dX1_noteWet_2 rfl rfl ?_
  refine q_aload_n dX1_noteWet_3 rfl rfl ?_
  refine q_getR (ci := 1) (k := 0) dX1_noteWet_4 rfl (by decide) rfl tw150 (by decide) qs26 qw26_0 (by decide) ?_
  refine qx_getI (ci := 9) (k := 3) (v := (mem 1 3)) dX1_noteWet_7 rfl rfl rfl tw51 rfl qs1 rfl ?_
  refine qx_icmp_ge (tgt := 35) dX1_noteWet_10 (by decide) (fun c1 => ?_) (fun c1 => ?_)
  · skip
    exact q_vret dX1_noteWet_35 (qK_i (l1 c1))
  · skip
    refine q_aload_n dX1_noteWet_13 rfl rfl ?_
    refine q_getR (ci := 1) (k := 1) dX1_noteWet_14 rfl (by decide) rfl tw151 (by decide) qs26 qw26_1 (by decide) ?_
    refine q_iload_n dX1_noteWet_17 rfl rfl ?_
    refine qx_iald (v := (mem 27 v2)) dX1_noteWet_18 qs27 (o2 c1) rfl ?_
    refine qx_if_le (tgt := 29) dX1_noteWet_19 (by decide) (fun c2 => ?_) (fun c2 => ?_)
    · skip
      refine qx_iinc (L' := [(2, 26), (0, n), (0, (v2 + 1))]) dX1_noteWet_29 rfl rfl rfl (o3 c1 c2) rfl ?_
      refine q_goto (tgt := 2) dX1_noteWet_32 (by decide) ?_
      exact l4 c1 c2
    · skip
      refine q_aload_n dX1_noteWet_22 rfl rfl ?_
      refine q_getR (ci := 1) (k := 6) dX1_noteWet_23 rfl (by decide) rfl tw160 (by decide) qs26 qw26_6 (by decide) ?_
      refine q_iload_n dX1_noteWet_26 rfl rfl ?_
      refine q_iload_n dX1_noteWet_27 rfl rfl ?_
      refine q_iast dX1_noteWet_28 qs32 ((o2 c1)).1 ((o2 c1)).2 ?_
      refine qx_iinc (L' := [(2, 26), (0, n), (0, (v2 + 1))]) dX1_noteWet_29 rfl rfl rfl (o5 c1 c2) rfl ?_
      refine q_goto (tgt := 2) dX1_noteWet_32 (by decide) ?_
      exact l6 c1 c2
theorem dX1_lastWet_0 : decode cX1_lastWet 0 = .ok (.iconst (-1), 1) := by decide +kernel
theorem dX1_lastWet_1 : decode cX1_lastWet 1 = .ok (.istore_n 1, 1) := by decide +kernel
theorem dX1_lastWet_2 : decode cX1_lastWet 2 = .ok (.iconst (-1), 1) := by decide +kernel
theorem dX1_lastWet_3 : decode cX1_lastWet 3 = .ok (.istore_n 2, 1) := by decide +kernel
theorem dX1_lastWet_4 : decode cX1_lastWet 4 = .ok (.iconst 0, 1) := by decide +kernel
theorem dX1_lastWet_5 : decode cX1_lastWet 5 = .ok (.istore_n 3, 1) := by decide +kernel
theorem dX1_lastWet_6 : decode cX1_lastWet 6 = .ok (.iload_n 3, 1) := by decide +kernel
theorem dX1_lastWet_7 : decode cX1_lastWet 7 = .ok (.aload_n 0, 1) := by decide +kernel
theorem dX1_lastWet_8 : decode cX1_lastWet 8 = .ok (.getfield 30, 3) := by decide +kernel
theorem dX1_lastWet_11 : decode cX1_lastWet 11 = .ok (.getfield 63, 3) := by decide +kernel
theorem dX1_lastWet_14 : decode cX1_lastWet 14 = .ok (.if_icmp .ge 37, 3) := by decide +kernel
theorem dX1_lastWet_17 : decode cX1_lastWet 17 = .ok (.aload_n 0, 1) := by decide +kernel
theorem dX1_lastWet_18 : decode cX1_lastWet 18 = .ok (.getfield 9, 3) := by decide +kernel
theorem dX1_lastWet_21 : decode cX1_lastWet 21 = .ok (.iload_n 3, 1) := by decide +kernel
theorem dX1_lastWet_22 : decode cX1_lastWet 22 = .ok (.iaload, 1) := by decide +kernel
theorem dX1_lastWet_23 : decode cX1_lastWet 23 = .ok (.ifCond .ne 22, 3) := by decide +kernel
theorem dX1_lastWet_26 : decode cX1_lastWet 26 = .ok (.aload_n 0, 1) := by decide +kernel
theorem dX1_lastWet_27 : decode cX1_lastWet 27 = .ok (.getfield 27, 3) := by decide +kernel
theorem dX1_lastWet_30 : decode cX1_lastWet 30 = .ok (.iload_n 3, 1) := by decide +kernel
theorem dX1_lastWet_31 : decode cX1_lastWet 31 = .ok (.iaload, 1) := by decide +kernel
theorem dX1_lastWet_32 : decode cX1_lastWet 32 = .ok (.iload_n 2, 1) := by decide +kernel
theorem dX1_lastWet_33 : decode cX1_lastWet 33 = .ok (.if_icmp .le 12, 3) := by decide +kernel
theorem dX1_lastWet_36 : decode cX1_lastWet 36 = .ok (.aload_n 0, 1) := by decide +kernel
theorem dX1_lastWet_37 : decode cX1_lastWet 37 = .ok (.getfield 27, 3) := by decide +kernel
theorem dX1_lastWet_40 : decode cX1_lastWet 40 = .ok (.iload_n 3, 1) := by decide +kernel
theorem dX1_lastWet_41 : decode cX1_lastWet 41 = .ok (.iaload, 1) := by decide +kernel
theorem dX1_lastWet_42 : decode cX1_lastWet 42 = .ok (.istore_n 2, 1) := by decide +kernel
theorem dX1_lastWet_43 : decode cX1_lastWet 43 = .ok (.iload_n 3, 1) := by decide +kernel
theorem dX1_lastWet_44 : decode cX1_lastWet 44 = .ok (.istore_n 1, 1) := by decide +kernel
theorem dX1_lastWet_45 : decode cX1_lastWet 45 = .ok (.iinc 3 1, 3) := by decide +kernel
theorem dX1_lastWet_48 : decode cX1_lastWet 48 = .ok (.goto (-42), 3) := by decide +kernel
theorem dX1_lastWet_51 : decode cX1_lastWet 51 = .ok (.iload_n 1, 1) := by decide +kernel
theorem dX1_lastWet_52 : decode cX1_lastWet 52 = .ok (.ireturn, 1) := by decide +kernel
theorem bkX1_lastWet_0 {b : Int} {mem : qm} {Q : Int → qm → Prop}
    (l1 : q_At yX1_lastWet cX1_lastWet 4 (some .int) 1 0 0 (qK (q_rb b) Q) 6 [(2, 26), (0, (-1)), (0, (-1)), (0, 0)] [] (q_sh0, q_rb b, mem)) :
    q_At yX1_lastWet cX1_lastWet 4 (some .int) 1 0 0 (qK (q_rb b) Q) 0 [(2, 26), (4, 0), (4, 0), (4, 0)] [] (q_sh0, q_rb b, mem) := by
  refine qx_iconst dX1_lastWet_0 rfl rfl ?_
  refine qx_istore_n (L' := [(2, 26), (0, (-1)), (4, 0), (4, 0)]) dX1_lastWet_1 rfl rfl rfl rfl ?_
  refine qx_iconst dX1_lastWet_2 rfl rfl ?_
  refine qx_istore_n (L' := [(2, 26), (0, (-1)), (0, (-1)), (4, 0)]) dX1_lastWet_3 rfl rfl rfl rfl ?_
  refine qx_iconst dX1_lastWet_4 rfl rfl ?_
  refine qx_istore_n (L' := [(2, 26), (0, (-1)), (0, (-1)), (0, 0)]) dX1_lastWet_5 rfl rfl rfl rfl ?_
  exact l1
theorem bkX1_lastWet_6 {b : Int} {mem : qm} {Q : Int → qm → Prop}
    {v1 v2 v3 : Int}
    (l1 : (mem 1 3) ≤ v3 → Q v1 mem)
    (o2 : v3 < (mem 1 3) → (0 ≤ v3 ∧ v3 < 9))
    (o3 : v3 < (mem 1 3) → (mem 27 v3) ≠ 0 → q_in32 (v3 + 1))
    (l4 : v3 < (mem 1 3) → (mem 27 v3) ≠ 0 → q_At yX1_lastWet cX1_lastWet 4 (some .int) 1 0 0 (qK (q_rb b) Q) 6 [(2, 26), (0, v1), (0, v2), (0, (v3 + 1))] [] (q_sh0, q_rb b, mem))
    (o5 : v3 < (mem 1 3) → (mem 27 v3) = 0 → (mem 32 v3) ≤ v2 → q_in32 (v3 + 1))
    (l6 : v3 < (mem 1 3) → (mem 27 v3) = 0 → (mem 32 v3) ≤ v2 → q_At yX1_lastWet cX1_lastWet 4 (some .int) 1 0 0 (qK (q_rb b) Q) 6 [(2, 26), (0, v1), (0, v2), (0, (v3 + 1))] [] (q_sh0, q_rb b, mem))
    (o7 : v3 < (mem 1 3) → (mem 27 v3) = 0 → v2 < (mem 32 v3) → q_in32 (v3 + 1))
    (l8 : v3 < (mem 1 3) → (mem 27 v3) = 0 → v2 < (mem 32 v3) → q_At yX1_lastWet cX1_lastWet 4 (some .int) 1 0 0 (qK (q_rb b) Q) 6 [(2, 26), (0, v3), (0, (mem 32 v3)), (0, (v3 + 1))] [] (q_sh0, q_rb b, mem)) :
    q_At yX1_lastWet cX1_lastWet 4 (some .int) 1 0 0 (qK (q_rb b) Q) 6 [(2, 26), (0, v1), (0, v2), (0, v3)] [] (q_sh0, q_rb b, mem) := by
  refine q_iload_n dX1_lastWet_6 rfl rfl ?_
  refine q_aload_n dX1_lastWet_7 rfl rfl ?_
  refine q_getR (ci := 1) (k := 0) dX1_lastWet_8 rfl (by decide) rfl tw150 (by decide) qs26 qw26_0 (by decide) ?_
  refine qx_getI (ci := 9) (k := 3) (v := (mem 1 3)) dX1_lastWet_11 rfl rfl rfl tw51 rfl qs1 rfl ?_
  refine qx_icmp_ge (tgt := 51) dX1_lastWet_14 (by decide) (fun c1 => ?_) (fun c1 => ?_)
  · skip
    refine q_iload_n dX1_lastWet_51 rfl rfl ?_
    exact q_iret dX1_lastWet_52 (qK_i (l1 c1))
  · skip
    refine q_aload_n dX1_lastWet_17 rfl rfl ?_
    refine q_getR (ci := 1) (k := 1) dX1_lastWet_18 rfl (by decide) rfl tw151 (by decide) qs26 qw26_1 (by decide) ?_
    refine q_iload_n dX1_lastWet_21 rfl rfl ?_
    refine qx_iald (v := (mem 27 v3)) dX1_lastWet_22 qs27 (o2 c1) rfl ?_
    refine qx_if_ne (tgt := 45) dX1_lastWet_23 (by decide) (fun c2 => ?_) (fun c2 => ?_)
    · skip
      refine qx_iinc (L' := [(2, 26), (0, v1), (0, v2), (0, (v3 + 1))]) dX1_lastWet_45 rfl rfl rfl (o3 c1 c2) rfl ?_
      refine q_goto (tgt := 6) dX1_lastWet_48 (by decide) ?_
      exact l4 c1 c2
    · skip
      refine q_aload_n dX1_lastWet_26 rfl rfl ?_
      refine q_getR (ci := 1) (k := 6) dX1_lastWet_27 rfl (by decide) rfl tw160 (by decide) qs26 qw26_6 (by decide) ?_
      refine q_iload_n dX1_lastWet_30 rfl rfl ?_
      refine qx_iald (v := (mem 32 v3)) dX1_lastWet_31 qs32 (o2 c1) rfl ?_
      refine q_iload_n dX1_lastWet_32 rfl rfl ?_
      refine qx_icmp_le (tgt := 45) dX1_lastWet_33 (by decide) (fun c3 => ?_) (fun c3 => ?_)
      · skip
        refine qx_iinc (L' := [(2, 26), (0, v1), (0, v2), (0, (v3 + 1))]) dX1_lastWet_45 rfl rfl rfl (o5 c1 c2 c3) rfl ?_
        refine q_goto (tgt := 6) dX1_lastWet_48 (by decide) ?_
        exact l6 c1 c2 c3
      · skip
        refine q_aload_n dX1_lastWet_36 rfl rfl ?_
        refine q_getR (ci := 1) (k := 6) dX1_lastWet_37 rfl (by decide) rfl tw160 (by decide) qs26 qw26_6 (by decide) ?_
        refine q_iload_n dX1_lastWet_40 rfl rfl ?_
        refine qx_iald (v := (mem 32 v3)) dX1_lastWet_41 qs32 (o2 c1) rfl ?_
        refine qx_istore_n (L' := [(2, 26), (0, v1), (0, (mem 32 v3)), (0, v3)]) dX1_lastWet_42 rfl rfl rfl rfl ?_
        refine q_iload_n dX1_lastWet_43 rfl rfl ?_
        refine qx_istore_n (L' := [(2, 26), (0, v3), (0, (mem 32 v3)), (0, v3)]) dX1_lastWet_44 rfl rfl rfl rfl ?_
        refine qx_iinc (L' := [(2, 26), (0, v3), (0, (mem 32 v3)), (0, (v3 + 1))]) dX1_lastWet_45 rfl rfl rfl (o7 c1 c2 c3) rfl ?_
        refine q_goto (tgt := 6) dX1_lastWet_48 (by decide) ?_
        exact l8 c1 c2 c3
