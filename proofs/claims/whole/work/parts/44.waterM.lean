theorem dX12_shareOf_0 : decode cX12_shareOf 0 = .ok (.iconst 0, 1) := by decide +kernel
theorem dX12_shareOf_1 : decode cX12_shareOf 1 = .ok (.istore_n 3, 1) := by decide +kernel
theorem dX12_shareOf_2 : decode cX12_shareOf 2 = .ok (.iconst 0, 1) := by decide +kernel
theorem dX12_shareOf_3 : decode cX12_shareOf 3 = .ok (.istore 4, 2) := by decide +kernel
theorem dX12_shareOf_5 : decode cX12_shareOf 5 = .ok (.iload 4, 2) := by decide +kernel
theorem dX12_shareOf_7 : decode cX12_shareOf 7 = .ok (.aload_n 0, 1) := by decide +kernel
theorem dX12_shareOf_8 : decode cX12_shareOf 8 = .ok (.getfield 13, 3) := by decide +kernel
theorem dX12_shareOf_11 : decode cX12_shareOf 11 = .ok (.iload_n 1, 1) := by decide +kernel
theorem dX12_shareOf_12 : decode cX12_shareOf 12 = .ok (.iaload, 1) := by decide +kernel
theorem dX12_shareOf_13 : decode cX12_shareOf 13 = .ok (.if_icmp .ge 33, 3) := by decide +kernel
theorem dX12_shareOf_16 : decode cX12_shareOf 16 = .ok (.iload_n 3, 1) := by decide +kernel
theorem dX12_shareOf_17 : decode cX12_shareOf 17 = .ok (.aload_n 0, 1) := by decide +kernel
theorem dX12_shareOf_18 : decode cX12_shareOf 18 = .ok (.getfield 31, 3) := by decide +kernel
theorem dX12_shareOf_21 : decode cX12_shareOf 21 = .ok (.bipush 60, 2) := by decide +kernel
theorem dX12_shareOf_23 : decode cX12_shareOf 23 = .ok (.iload_n 1, 1) := by decide +kernel
theorem dX12_shareOf_24 : decode cX12_shareOf 24 = .ok (.imul, 1) := by decide +kernel
theorem dX12_shareOf_25 : decode cX12_shareOf 25 = .ok (.iload 4, 2) := by decide +kernel
theorem dX12_shareOf_27 : decode cX12_shareOf 27 = .ok (.iadd, 1) := by decide +kernel
theorem dX12_shareOf_28 : decode cX12_shareOf 28 = .ok (.iaload, 1) := by decide +kernel
theorem dX12_shareOf_29 : decode cX12_shareOf 29 = .ok (.iload_n 2, 1) := by decide +kernel
theorem dX12_shareOf_30 : decode cX12_shareOf 30 = .ok (.if_icmp .ne 7, 3) := by decide +kernel
theorem dX12_shareOf_33 : decode cX12_shareOf 33 = .ok (.iconst 1, 1) := by decide +kernel
theorem dX12_shareOf_34 : decode cX12_shareOf 34 = .ok (.goto 4, 3) := by decide +kernel
theorem dX12_shareOf_37 : decode cX12_shareOf 37 = .ok (.iconst 0, 1) := by decide +kernel
theorem dX12_shareOf_38 : decode cX12_shareOf 38 = .ok (.iadd, 1) := by decide +kernel
theorem dX12_shareOf_39 : decode cX12_shareOf 39 = .ok (.istore_n 3, 1) := by decide +kernel
theorem dX12_shareOf_40 : decode cX12_shareOf 40 = .ok (.iinc 4 1, 3) := by decide +kernel
theorem dX12_shareOf_43 : decode cX12_shareOf 43 = .ok (.goto (-38), 3) := by decide +kernel
theorem dX12_shareOf_46 : decode cX12_shareOf 46 = .ok (.iload_n 3, 1) := by decide +kernel
theorem dX12_shareOf_47 : decode cX12_shareOf 47 = .ok (.ireturn, 1) := by decide +kernel
theorem bkX12_shareOf_0 {b : Int} {mem : qm} {Q : Int → qm → Prop}
    {j v : Int}
    (l1 : q_At yX12_shareOf cX12_shareOf 5 (some .int) 1 0 0 (qK (q_rb b) Q) 5 [(2, 188), (0, j), (0, v), (0, 0), (0, 0)] [] (q_sh0, q_rb b, mem)) :
    q_At yX12_shareOf cX12_shareOf 5 (some .int) 1 0 0 (qK (q_rb b) Q) 0 [(2, 188), (0, j), (0, v), (4, 0), (4, 0)] [] (q_sh0, q_rb b, mem) := by
  refine qx_iconst dX12_shareOf_0 rfl rfl ?_
  refine qx_istore_n (L' := [(2, 188), (0, j), (0, v), (0, 0), (4, 0)]) dX12_shareOf_1 rfl rfl rfl rfl ?_
  refine qx_iconst dX12_shareOf_2 rfl rfl ?_
  refine qx_istore (L' := [(2, 188), (0, j), (0, v), (0, 0), (0, 0)]) dX12_shareOf_3 rfl rfl rfl ?_
  exact l1
theorem bkX12_shareOf_5 {b : Int} {mem : qm} {Q : Int → qm → Prop}
    {j v v3 v4 : Int}
    (o1 : (0 ≤ j ∧ j < 9))
    (l2 : (mem 190 j) ≤ v4 → Q v3 mem)
    (o3 : v4 < (mem 190 j) → q_in32 (60 * j) ∧ q_in32 ((60 * j) + v4) ∧ (0 ≤ ((60 * j) + v4) ∧ ((60 * j) + v4) < 540))
    (o4 : v4 < (mem 190 j) → (mem 196 ((60 * j) + v4)) ≠ v → q_in32 (v3 + 0) ∧ q_in32 (v4 + 1))
    (l5 : v4 < (mem 190 j) → (mem 196 ((60 * j) + v4)) ≠ v → q_At yX12_shareOf cX12_shareOf 5 (some .int) 1 0 0 (qK (q_rb b) Q) 5 [(2, 188), (0, j), (0, v), (0, (v3 + 0)), (0, (v4 + 1))] [] (q_sh0, q_rb b, mem))
    (o6 : v4 < (mem 190 j) → (mem 196 ((60 * j) + v4)) = v → q_in32 (v3 + 1) ∧ q_in32 (v4 + 1))
    (l7 : v4 < (mem 190 j) → (mem 196 ((60 * j) + v4)) = v → q_At yX12_shareOf cX12_shareOf 5 (some .int) 1 0 0 (qK (q_rb b) Q) 5 [(2, 188), (0, j), (0, v), (0, (v3 + 1)), (0, (v4 + 1))] [] (q_sh0, q_rb b, mem)) :
    q_At yX12_shareOf cX12_shareOf 5 (some .int) 1 0 0 (qK (q_rb b) Q) 5 [(2, 188), (0, j), (0, v), (0, v3), (0, v4)] [] (q_sh0, q_rb b, mem) := by
  refine q_iload dX12_shareOf_5 rfl ?_
  refine q_aload_n dX12_shareOf_7 rfl rfl ?_
  refine q_getR (ci := 12) (k := 2) dX12_shareOf_8 rfl (by decide) rfl tw1185 (by decide) qs188 qw188_2 (by decide) ?_
  refine q_iload_n dX12_shareOf_11 rfl rfl ?_
  refine qx_iald (v := (mem 190 j)) dX12_shareOf_12 qs190 (o1) rfl ?_
  refine qx_icmp_ge (tgt := 46) dX12_shareOf_13 (by decide) (fun c1 => ?_) (fun c1 => ?_)
  · skip
    refine q_iload_n dX12_shareOf_46 rfl rfl ?_
    exact q_iret dX12_shareOf_47 (qK_i (l2 c1))
  · skip
    refine q_iload_n dX12_shareOf_16 rfl rfl ?_
    refine q_aload_n dX12_shareOf_17 rfl rfl ?_
    refine q_getR (ci := 12) (k := 8) dX12_shareOf_18 rfl (by decide) rfl tw1191 (by decide) qs188 qw188_8 (by decide) ?_
    refine qx_bipush dX12_shareOf_21 rfl rfl ?_
    refine q_iload_n dX12_shareOf_23 rfl rfl ?_
    refine qx_imul dX12_shareOf_24 (o3 c1).1 ?_
    refine q_iload dX12_shareOf_25 rfl ?_
    refine qx_iadd dX12_shareOf_27 (o3 c1).2.1 ?_
    refine qx_iald (v := (mem 196 ((60 * j) + v4))) dX12_shareOf_28 qs196 (o3 c1).2.2 rfl ?_
    refine q_iload_n dX12_shareOf_29 rfl rfl ?_
    refine qx_icmp_ne (tgt := 37) dX12_shareOf_30 (by decide) (fun c2 => ?_) (fun c2 => ?_)
    · skip
      refine qx_iconst dX12_shareOf_37 rfl rfl ?_
      refine qx_iadd dX12_shareOf_38 (o4 c1 c2).1 ?_
      refine qx_istore_n (L' := [(2, 188), (0, j), (0, v), (0, (v3 + 0)), (0, v4)]) dX12_shareOf_39 rfl rfl rfl rfl ?_
      refine qx_iinc (L' := [(2, 188), (0, j), (0, v), (0, (v3 + 0)), (0, (v4 + 1))]) dX12_shareOf_40 rfl rfl rfl (o4 c1 c2).2 rfl ?_
      refine q_goto (tgt := 5) dX12_shareOf_43 (by decide) ?_
      exact l5 c1 c2
    · skip
      refine qx_iconst dX12_shareOf_33 rfl rfl ?_
      refine q_goto (tgt := 38) dX12_shareOf_34 (by decide) ?_
      refine qx_iadd dX12_shareOf_38 (o6 c1 c2).1 ?_
      refine qx_istore_n (L' := [(2, 188), (0, j), (0, v), (0, (v3 + 1)), (0, v4)]) dX12_shareOf_39 rfl rfl rfl rfl ?_
      refine qx_iinc (L' := [(2, 188), (0, j), (0, v), (0, (v3 + 1)), (0, (v4 + 1))]) dX12_shareOf_40 rfl rfl rfl (o6 c1 c2).2 rfl ?_
      refine q_goto (tgt := 5) dX12_shareOf_43 (by decide) ?_
      exact l7 c1 c2
theorem dX12_share_0 : decode cX12_share 0 = .ok (.aload_n 0, 1) := by decide +kernel
theorem dX12_share_1 : decode cX12_share 1 = .ok (.iconst 0, 1) := by decide +kernel
theorem dX12_share_2 : decode cX12_share 2 = .ok (.putfield 128, 3) := by decide +kernel
theorem dX12_share_5 : decode cX12_share 5 = .ok (.aload_n 0, 1) := by decide +kernel
theorem dX12_share_6 : decode cX12_share 6 = .ok (.iload_n 1, 1) := by decide +kernel
theorem dX12_share_7 : decode cX12_share 7 = .ok (.invokevirtual 225, 3) := by decide +kernel
theorem dX12_share_10 : decode cX12_share 10 = .ok (.ifCond .eq 19, 3) := by decide +kernel
theorem dX12_share_13 : decode cX12_share 13 = .ok (.iload_n 2, 1) := by decide +kernel
theorem dX12_share_14 : decode cX12_share 14 = .ok (.invokestatic 254, 3) := by decide +kernel
theorem dX12_share_17 : decode cX12_share 17 = .ok (.ifCond .eq 12, 3) := by decide +kernel
theorem dX12_share_20 : decode cX12_share 20 = .ok (.aload_n 0, 1) := by decide +kernel
theorem dX12_share_21 : decode cX12_share 21 = .ok (.iload_n 1, 1) := by decide +kernel
theorem dX12_share_22 : decode cX12_share 22 = .ok (.iload_n 2, 1) := by decide +kernel
theorem dX12_share_23 : decode cX12_share 23 = .ok (.invokevirtual 366, 3) := by decide +kernel
theorem dX12_share_26 : decode cX12_share 26 = .ok (.goto 4, 3) := by decide +kernel
theorem dX12_share_29 : decode cX12_share 29 = .ok (.iconst (-1), 1) := by decide +kernel
theorem dX12_share_30 : decode cX12_share 30 = .ok (.ireturn, 1) := by decide +kernel
theorem bkX12_share_0 {b : Int} {mem : qm} {Q : Int → qm → Prop}
    {j v : Int}
    (o1 : q_in32 ((mem 188 0) - 1))
    {P3 : Int → qm → Prop}
    (l2 : (0 ≤ j ∧ j ≤ (mem 188 0) - 1) → (0 ≤ v ∧ v ≤ 6) → q_Ev yX12_shareOf cX12_shareOf 5 (some .int) 1 0 0 [(2, 188), (0, j), (0, v)] (q_sh0, q_rb b, (q_up mem 188 17 0)) (qK (q_rb b) (P3)))
    (l3 : (0 ≤ j ∧ j ≤ (mem 188 0) - 1) → (0 ≤ v ∧ v ≤ 6) → ∀ (r3 : Int), ∀ (m3 : qm), P3 r3 m3 → q_in32 r3 → Q r3 m3)
    (l4 : (0 ≤ j ∧ j ≤ (mem 188 0) - 1) → ¬ (0 ≤ v ∧ v ≤ 6) → Q (-1) (q_up mem 188 17 0))
    (l5 : ¬ (0 ≤ j ∧ j ≤ (mem 188 0) - 1) → Q (-1) (q_up mem 188 17 0)) :
    q_At yX12_share cX12_share 3 (some .int) 3 0 0 (qK (q_rb b) Q) 0 [(2, 188), (0, j), (0, v)] [] (q_sh0, q_rb b, mem) := by
  refine q_aload_n dX12_share_0 rfl rfl ?_
  refine qx_iconst dX12_share_1 rfl rfl ?_
  refine q_putI (ci := 12) (k := 17) (kI := 17) (ty := .int) dX12_share_2 rfl (by decide) rfl tw1200 rfl rfl rfl (fun _ => ⟨rfl, rfl⟩) qs188 ?_
  refine q_aload_n dX12_share_5 rfl rfl ?_
  refine q_iload_n dX12_share_6 rfl rfl ?_
  refine qx_invV (ci := 12) [(0, j)] [(0, j), (2, 188)] rfl qM_X12_isJar dX12_share_7 tw1433 rfl qs188 rfl rfl rfl rfl (spX12_isJar (by first | exact (o1) | (simp only [q_up, Int.reduceEq, false_and, true_and, and_true, and_false, ite_false, ite_true, if_true, if_false]; exact (o1)))) (fun r1 m1 p1 q1 => ?_)
  obtain ⟨p1e, ⟨p1f, p1⟩ | ⟨p1f, p1⟩⟩ := p1
  · rw [p1e, p1f]
    simp only [q_up, Int.reduceEq, false_and, true_and, and_true, and_false, ite_false, ite_true, if_true, if_false] at p1
    refine qx_if_eq (tgt := 29) dX12_share_10 (by decide) (fun z => absurd z (by decide)) (fun _ => ?_)
    refine q_iload_n dX12_share_13 rfl rfl ?_
    refine qx_invS [(0, v)] [(0, v)] rfl qM_X12_isOrigin dX12_share_14 tw1463 rfl rfl rfl rfl (spX12_isOrigin) (fun r2 m2 p2 q2 => ?_)
    obtain ⟨p2e, ⟨p2f, p2⟩ | ⟨p2f, p2⟩⟩ := p2
    · rw [p2e, p2f]
      refine qx_if_eq (tgt := 29) dX12_share_17 (by decide) (fun z => absurd z (by decide)) (fun _ => ?_)
      refine q_aload_n dX12_share_20 rfl rfl ?_
      refine q_iload_n dX12_share_21 rfl rfl ?_
      refine q_iload_n dX12_share_22 rfl rfl ?_
      refine qx_invV (ci := 12) [(0, j), (0, v)] [(0, v), (0, j), (2, 188)] rfl qM_X12_shareOf dX12_share_23 tw1683 rfl qs188 rfl rfl rfl rfl (l2 p1 p2) (fun r3 m3 p3 q3 => ?_)
      refine q_goto (tgt := 30) dX12_share_26 (by decide) ?_
      exact q_iret dX12_share_30 (qK_i (l3 p1 p2 r3 m3 p3 q3))
    · rw [p2e, p2f]
      refine qx_if_eq (tgt := 29) dX12_share_17 (by decide) (fun _ => ?_) (fun z => absurd z (by decide))
      refine qx_iconst dX12_share_29 rfl rfl ?_
      exact q_iret dX12_share_30 (qK_i (l4 p1 p2))
  · rw [p1e, p1f]
    simp only [q_up, Int.reduceEq, false_and, true_and, and_true, and_false, ite_false, ite_true, if_true, if_false] at p1
    refine qx_if_eq (tgt := 29) dX12_share_10 (by decide) (fun _ => ?_) (fun z => absurd z (by decide))
    refine qx_iconst dX12_share_29 rfl rfl ?_
    exact q_iret dX12_share_30 (qK_i (l5 p1))
theorem dX12_cup_0 : decode cX12_cup 0 = .ok (.aload_n 0, 1) := by decide +kernel
theorem dX12_cup_1 : decode cX12_cup 1 = .ok (.iconst 0, 1) := by decide +kernel
theorem dX12_cup_2 : decode cX12_cup 2 = .ok (.putfield 128, 3) := by decide +kernel
theorem dX12_cup_5 : decode cX12_cup 5 = .ok (.aload_n 0, 1) := by decide +kernel
theorem dX12_cup_6 : decode cX12_cup 6 = .ok (.iload_n 1, 1) := by decide +kernel
theorem dX12_cup_7 : decode cX12_cup 7 = .ok (.invokevirtual 225, 3) := by decide +kernel
theorem dX12_cup_10 : decode cX12_cup 10 = .ok (.ifCond .eq 13, 3) := by decide +kernel
theorem dX12_cup_13 : decode cX12_cup 13 = .ok (.iload_n 2, 1) := by decide +kernel
theorem dX12_cup_14 : decode cX12_cup 14 = .ok (.iconst 0, 1) := by decide +kernel
theorem dX12_cup_15 : decode cX12_cup 15 = .ok (.bipush 60, 2) := by decide +kernel
theorem dX12_cup_17 : decode cX12_cup 17 = .ok (.invokestatic 137, 3) := by decide +kernel
theorem dX12_cup_20 : decode cX12_cup 20 = .ok (.ifCond .ne 5, 3) := by decide +kernel
theorem dX12_cup_23 : decode cX12_cup 23 = .ok (.iconst (-1), 1) := by decide +kernel
theorem dX12_cup_24 : decode cX12_cup 24 = .ok (.ireturn, 1) := by decide +kernel
theorem dX12_cup_25 : decode cX12_cup 25 = .ok (.iload_n 2, 1) := by decide +kernel
theorem dX12_cup_26 : decode cX12_cup 26 = .ok (.aload_n 0, 1) := by decide +kernel
theorem dX12_cup_27 : decode cX12_cup 27 = .ok (.getfield 13, 3) := by decide +kernel
theorem dX12_cup_30 : decode cX12_cup 30 = .ok (.iload_n 1, 1) := by decide +kernel
theorem dX12_cup_31 : decode cX12_cup 31 = .ok (.iaload, 1) := by decide +kernel
theorem dX12_cup_32 : decode cX12_cup 32 = .ok (.invokestatic 234, 3) := by decide +kernel
theorem dX12_cup_35 : decode cX12_cup 35 = .ok (.istore_n 3, 1) := by decide +kernel
theorem dX12_cup_36 : decode cX12_cup 36 = .ok (.iconst 0, 1) := by decide +kernel
theorem dX12_cup_37 : decode cX12_cup 37 = .ok (.istore 4, 2) := by decide +kernel
theorem dX12_cup_39 : decode cX12_cup 39 = .ok (.iload 4, 2) := by decide +kernel
theorem dX12_cup_41 : decode cX12_cup 41 = .ok (.bipush 7, 2) := by decide +kernel
theorem dX12_cup_43 : decode cX12_cup 43 = .ok (.if_icmp .ge 17, 3) := by decide +kernel
theorem dX12_cup_46 : decode cX12_cup 46 = .ok (.aload_n 0, 1) := by decide +kernel
theorem dX12_cup_47 : decode cX12_cup 47 = .ok (.getfield 106, 3) := by decide +kernel
theorem dX12_cup_50 : decode cX12_cup 50 = .ok (.iload 4, 2) := by decide +kernel
theorem dX12_cup_52 : decode cX12_cup 52 = .ok (.iconst 0, 1) := by decide +kernel
theorem dX12_cup_53 : decode cX12_cup 53 = .ok (.iastore, 1) := by decide +kernel
theorem dX12_cup_54 : decode cX12_cup 54 = .ok (.iinc 4 1, 3) := by decide +kernel
theorem dX12_cup_57 : decode cX12_cup 57 = .ok (.goto (-18), 3) := by decide +kernel
theorem dX12_cup_60 : decode cX12_cup 60 = .ok (.iconst 0, 1) := by decide +kernel
theorem dX12_cup_61 : decode cX12_cup 61 = .ok (.istore 4, 2) := by decide +kernel
theorem dX12_cup_63 : decode cX12_cup 63 = .ok (.iload 4, 2) := by decide +kernel
theorem dX12_cup_65 : decode cX12_cup 65 = .ok (.iload_n 3, 1) := by decide +kernel
theorem dX12_cup_66 : decode cX12_cup 66 = .ok (.if_icmp .ge 30, 3) := by decide +kernel
theorem dX12_cup_69 : decode cX12_cup 69 = .ok (.aload_n 0, 1) := by decide +kernel
theorem dX12_cup_70 : decode cX12_cup 70 = .ok (.getfield 106, 3) := by decide +kernel
theorem dX12_cup_73 : decode cX12_cup 73 = .ok (.aload_n 0, 1) := by decide +kernel
theorem dX12_cup_74 : decode cX12_cup 74 = .ok (.getfield 31, 3) := by decide +kernel
theorem dX12_cup_77 : decode cX12_cup 77 = .ok (.bipush 60, 2) := by decide +kernel
theorem dX12_cup_79 : decode cX12_cup 79 = .ok (.iload_n 1, 1) := by decide +kernel
theorem dX12_cup_80 : decode cX12_cup 80 = .ok (.imul, 1) := by decide +kernel
theorem dX12_cup_81 : decode cX12_cup 81 = .ok (.iload 4, 2) := by decide +kernel
theorem dX12_cup_83 : decode cX12_cup 83 = .ok (.iadd, 1) := by decide +kernel
theorem dX12_cup_84 : decode cX12_cup 84 = .ok (.iaload, 1) := by decide +kernel
theorem dX12_cup_85 : decode cX12_cup 85 = .ok (.dup2, 1) := by decide +kernel
theorem dX12_cup_86 : decode cX12_cup 86 = .ok (.iaload, 1) := by decide +kernel
theorem dX12_cup_87 : decode cX12_cup 87 = .ok (.iconst 1, 1) := by decide +kernel
theorem dX12_cup_88 : decode cX12_cup 88 = .ok (.iadd, 1) := by decide +kernel
theorem dX12_cup_89 : decode cX12_cup 89 = .ok (.iastore, 1) := by decide +kernel
theorem dX12_cup_90 : decode cX12_cup 90 = .ok (.iinc 4 1, 3) := by decide +kernel
theorem dX12_cup_93 : decode cX12_cup 93 = .ok (.goto (-30), 3) := by decide +kernel
theorem dX12_cup_96 : decode cX12_cup 96 = .ok (.aload_n 0, 1) := by decide +kernel
theorem dX12_cup_97 : decode cX12_cup 97 = .ok (.iconst 0, 1) := by decide +kernel
theorem dX12_cup_98 : decode cX12_cup 98 = .ok (.putfield 131, 3) := by decide +kernel
theorem dX12_cup_101 : decode cX12_cup 101 = .ok (.aload_n 0, 1) := by decide +kernel
theorem dX12_cup_102 : decode cX12_cup 102 = .ok (.getfield 106, 3) := by decide +kernel
theorem dX12_cup_105 : decode cX12_cup 105 = .ok (.astore 4, 2) := by decide +kernel
theorem dX12_cup_107 : decode cX12_cup 107 = .ok (.aload 4, 2) := by decide +kernel
theorem dX12_cup_109 : decode cX12_cup 109 = .ok (.arraylength, 1) := by decide +kernel
theorem dX12_cup_110 : decode cX12_cup 110 = .ok (.istore 5, 2) := by decide +kernel
theorem dX12_cup_112 : decode cX12_cup 112 = .ok (.iconst 0, 1) := by decide +kernel
theorem dX12_cup_113 : decode cX12_cup 113 = .ok (.istore 6, 2) := by decide +kernel
theorem dX12_cup_115 : decode cX12_cup 115 = .ok (.iload 6, 2) := by decide +kernel
theorem dX12_cup_117 : decode cX12_cup 117 = .ok (.iload 5, 2) := by decide +kernel
theorem dX12_cup_119 : decode cX12_cup 119 = .ok (.if_icmp .ge 22, 3) := by decide +kernel
theorem dX12_cup_122 : decode cX12_cup 122 = .ok (.aload 4, 2) := by decide +kernel
theorem dX12_cup_124 : decode cX12_cup 124 = .ok (.iload 6, 2) := by decide +kernel
theorem dX12_cup_126 : decode cX12_cup 126 = .ok (.iaload, 1) := by decide +kernel
theorem dX12_cup_127 : decode cX12_cup 127 = .ok (.istore 7, 2) := by decide +kernel
theorem dX12_cup_129 : decode cX12_cup 129 = .ok (.aload_n 0, 1) := by decide +kernel
theorem dX12_cup_130 : decode cX12_cup 130 = .ok (.iload 7, 2) := by decide +kernel
theorem dX12_cup_132 : decode cX12_cup 132 = .ok (.invokevirtual 276, 3) := by decide +kernel
theorem dX12_cup_135 : decode cX12_cup 135 = .ok (.iinc 6 1, 3) := by decide +kernel
theorem dX12_cup_138 : decode cX12_cup 138 = .ok (.goto (-23), 3) := by decide +kernel
theorem dX12_cup_141 : decode cX12_cup 141 = .ok (.iload_n 3, 1) := by decide +kernel
theorem dX12_cup_142 : decode cX12_cup 142 = .ok (.ireturn, 1) := by decide +kernel
theorem bkX12_cup_0 {b : Int} {mem : qm} {Q : Int → qm → Prop}
    {j v : Int}
    (o1 : q_in32 ((mem 188 0) - 1))
    (o2 : (0 ≤ j ∧ j ≤ (mem 188 0) - 1) → (0 ≤ v ∧ v ≤ 60) → (0 ≤ j ∧ j < 9))
    (l3 : (0 ≤ j ∧ j ≤ (mem 188 0) - 1) → (0 ≤ v ∧ v ≤ 60) → q_At yX12_cup cX12_cup 8 (some .int) 3 0 0 (qK (q_rb b) Q) 39 [(2, 188), (0, j), (0, v), (0, (min v (mem 190 j))), (0, 0), (4, 0), (4, 0), (4, 0)] [] (q_sh0, q_rb b, (q_up mem 188 17 0)))
    (l4 : (0 ≤ j ∧ j ≤ (mem 188 0) - 1) → ¬ (0 ≤ v ∧ v ≤ 60) → Q (-1) (q_up mem 188 17 0))
    (l5 : ¬ (0 ≤ j ∧ j ≤ (mem 188 0) - 1) → Q (-1) (q_up mem 188 17 0)) :
    q_At yX12_cup cX12_cup 8 (some .int) 3 0 0 (qK (q_rb b) Q) 0 [(2, 188), (0, j), (0, v), (4, 0), (4, 0), (4, 0), (4, 0), (4, 0)] [] (q_sh0, q_rb b, mem) := by
  refine q_aload_n dX12_cup_0 rfl rfl ?_
  refine qx_iconst dX12_cup_1 rfl rfl ?_
  refine q_putI (ci := 12) (k := 17) (kI := 17) (ty := .int) dX12_cup_2 rfl (by decide) rfl tw1200 rfl rfl rfl (fun _ => ⟨rfl, rfl⟩) qs188 ?_
  refine q_aload_n dX12_cup_5 rfl rfl ?_
  refine q_iload_n dX12_cup_6 rfl rfl ?_
  refine qx_invV (ci := 12) [(0, j)] [(0, j), (2, 188)] rfl qM_X12_isJar dX12_cup_7 tw1433 rfl qs188 rfl rfl rfl rfl (spX12_isJar (by first | exact (o1) | (simp only [q_up, Int.reduceEq, false_and, true_and, and_true, and_false, ite_false, ite_true, if_true, if_false]; exact (o1)))) (fun r1 m1 p1 q1 => ?_)
  obtain ⟨p1e, ⟨p1f, p1⟩ | ⟨p1f, p1⟩⟩ := p1
  · rw [p1e, p1f]
    simp only [q_up, Int.reduceEq, false_and, true_and, and_true, and_false, ite_false, ite_true, if_true, if_false] at p1
    refine qx_if_eq (tgt := 23) dX12_cup_10 (by decide) (fun z => absurd z (by decide)) (fun _ => ?_)
    refine q_iload_n dX12_cup_13 rfl rfl ?_
    refine qx_iconst dX12_cup_14 rfl rfl ?_
    refine qx_bipush dX12_cup_15 rfl rfl ?_
    refine qx_invS [(0, v), (0, 0), (0, 60)] [(0, 60), (0, 0), (0, v)] rfl qM_X12_in dX12_cup_17 tw1362 rfl rfl rfl rfl (spX12_in) (fun r2 m2 p2 q2 => ?_)
    obtain ⟨p2e, ⟨p2f, p2⟩ | ⟨p2f, p2⟩⟩ := p2
    · rw [p2e, p2f]
      refine qx_if_ne (tgt := 25) dX12_cup_20 (by decide) (fun _ => ?_) (fun z => absurd z (by decide))
      refine q_iload_n dX12_cup_25 rfl rfl ?_
      refine q_aload_n dX12_cup_26 rfl rfl ?_
      refine q_getR (ci := 12) (k := 2) dX12_cup_27 rfl (by decide) rfl tw1185 (by decide) qs188 qw188_2 (by decide) ?_
      refine q_iload_n dX12_cup_30 rfl rfl ?_
      refine qx_iald (v := (mem 190 j)) dX12_cup_31 qs190 (o2 p1 p2) (q_up_c (by decide)) ?_
      refine q_min dX12_cup_32 tw1457 tw429 tw15 tw430 (by decide) (Nat.le_of_ble_eq_true rfl) ?_
      refine qx_istore_n (L' := [(2, 188), (0, j), (0, v), (0, (min v (mem 190 j))), (4, 0), (4, 0), (4, 0), (4, 0)]) dX12_cup_35 rfl rfl rfl rfl ?_
      refine qx_iconst dX12_cup_36 rfl rfl ?_
      refine qx_istore (L' := [(2, 188), (0, j), (0, v), (0, (min v (mem 190 j))), (0, 0), (4, 0), (4, 0), (4, 0)]) dX12_cup_37 rfl rfl rfl ?_
      exact l3 p1 p2
    · rw [p2e, p2f]
      refine qx_if_ne (tgt := 25) dX12_cup_20 (by decide) (fun z => absurd z (by decide)) (fun _ => ?_)
      refine qx_iconst dX12_cup_23 rfl rfl ?_
      exact q_iret dX12_cup_24 (qK_i (l4 p1 p2))
  · rw [p1e, p1f]
    simp only [q_up, Int.reduceEq, false_and, true_and, and_true, and_false, ite_false, ite_true, if_true, if_false] at p1
    refine qx_if_eq (tgt := 23) dX12_cup_10 (by decide) (fun _ => ?_) (fun z => absurd z (by decide))
    refine qx_iconst dX12_cup_23 rfl rfl ?_
    exact q_iret dX12_cup_24 (qK_i (l5 p1))
theorem bkX12_cup_39 {b : Int} {mem : qm} {Q : Int → qm → Prop}
    {j v v3 v4 : Int}
    (l1 : 7 ≤ v4 → q_At yX12_cup cX12_cup 8 (some .int) 3 0 0 (qK (q_rb b) Q) 63 [(2, 188), (0, j), (0, v), (0, v3), (0, 0), (4, 0), (4, 0), (4, 0)] [] (q_sh0, q_rb b, mem))
    (o2 : v4 < 7 → (0 ≤ v4 ∧ v4 < 7) ∧ q_in32 (v4 + 1))
    (l3 : v4 < 7 → q_At yX12_cup cX12_cup 8 (some .int) 3 0 0 (qK (q_rb b) Q) 39 [(2, 188), (0, j), (0, v), (0, v3), (0, (v4 + 1)), (4, 0), (4, 0), (4, 0)] [] (q_sh0, q_rb b, (q_up mem 218 v4 0))) :
    q_At yX12_cup cX12_cup 8 (some .int) 3 0 0 (qK (q_rb b) Q) 39 [(2, 188), (0, j), (0, v), (0, v3), (0, v4), (4, 0), (4, 0), (4, 0)] [] (q_sh0, q_rb b, mem) := by
  refine q_iload dX12_cup_39 rfl ?_
  refine qx_bipush dX12_cup_41 rfl rfl ?_
  refine qx_icmp_ge (tgt := 60) dX12_cup_43 (by decide) (fun c1 => ?_) (fun c1 => ?_)
  · skip
    refine qx_iconst dX12_cup_60 rfl rfl ?_
    refine qx_istore (L' := [(2, 188), (0, j), (0, v), (0, v3), (0, 0), (4, 0), (4, 0), (4, 0)]) dX12_cup_61 rfl rfl rfl ?_
    exact l1 c1
  · skip
    refine q_aload_n dX12_cup_46 rfl rfl ?_
    refine q_getR (ci := 12) (k := 46) dX12_cup_47 rfl (by decide) rfl tw1229 (by decide) qs188 qw188_46 (by decide) ?_
    refine q_iload dX12_cup_50 rfl ?_
    refine qx_iconst dX12_cup_52 rfl rfl ?_
    refine q_iast dX12_cup_53 qs218 ((o2 c1).1).1 ((o2 c1).1).2 ?_
    refine qx_iinc (L' := [(2, 188), (0, j), (0, v), (0, v3), (0, (v4 + 1)), (4, 0), (4, 0), (4, 0)]) dX12_cup_54 rfl rfl rfl (o2 c1).2 rfl ?_
    refine q_goto (tgt := 39) dX12_cup_57 (by decide) ?_
    exact l3 c1
theorem bkX12_cup_63 {b : Int} {mem : qm} {Q : Int → qm → Prop}
    {j v v3 v4 : Int}
    (l1 : v3 ≤ v4 → q_At yX12_cup cX12_cup 8 (some .int) 3 0 0 (qK (q_rb b) Q) 115 [(2, 188), (0, j), (0, v), (0, v3), (2, 218), (0, 7), (0, 0), (4, 0)] [] (q_sh0, q_rb b, (q_up mem 188 16 0)))
    (o2 : v4 < v3 → q_in32 (60 * j) ∧ q_in32 ((60 * j) + v4) ∧ (0 ≤ ((60 * j) + v4) ∧ ((60 * j) + v4) < 540) ∧ (0 ≤ (mem 196 ((60 * j) + v4)) ∧ (mem 196 ((60 * j) + v4)) < 7) ∧ q_in32 ((mem 218 (mem 196 ((60 * j) + v4))) + 1) ∧ q_in32 (v4 + 1))
    (l3 : v4 < v3 → q_At yX12_cup cX12_cup 8 (some .int) 3 0 0 (qK (q_rb b) Q) 63 [(2, 188), (0, j), (0, v), (0, v3), (0, (v4 + 1)), (4, 0), (4, 0), (4, 0)] [] (q_sh0, q_rb b, (q_up mem 218 (mem 196 ((60 * j) + v4)) ((mem 218 (mem 196 ((60 * j) + v4))) + 1)))) :
    q_At yX12_cup cX12_cup 8 (some .int) 3 0 0 (qK (q_rb b) Q) 63 [(2, 188), (0, j), (0, v), (0, v3), (0, v4), (4, 0), (4, 0), (4, 0)] [] (q_sh0, q_rb b, mem) := by
  refine q_iload dX12_cup_63 rfl ?_
  refine q_iload_n dX12_cup_65 rfl rfl ?_
  refine qx_icmp_ge (tgt := 96) dX12_cup_66 (by decide) (fun c1 => ?_) (fun c1 => ?_)
  · skip
    refine q_aload_n dX12_cup_96 rfl rfl ?_
    refine qx_iconst dX12_cup_97 rfl rfl ?_
    refine q_putI (ci := 12) (k := 16) (kI := 16) (ty := .int) dX12_cup_98 rfl (by decide) rfl tw1199 rfl rfl rfl (fun _ => ⟨rfl, rfl⟩) qs188 ?_
    refine q_aload_n dX12_cup_101 rfl rfl ?_
    refine q_getR (ci := 12) (k := 46) dX12_cup_102 rfl (by decide) rfl tw1229 (by decide) qs188 qw188_46 (by decide) ?_
    refine qx_astore (L' := [(2, 188), (0, j), (0, v), (0, v3), (2, 218), (4, 0), (4, 0), (4, 0)]) dX12_cup_105 rfl rfl rfl ?_
    refine q_aload dX12_cup_107 rfl ?_
    refine q_alen0 dX12_cup_109 qs218 (by decide) ?_
    refine qx_istore (L' := [(2, 188), (0, j), (0, v), (0, v3), (2, 218), (0, 7), (4, 0), (4, 0)]) dX12_cup_110 rfl rfl rfl ?_
    refine qx_iconst dX12_cup_112 rfl rfl ?_
    refine qx_istore (L' := [(2, 188), (0, j), (0, v), (0, v3), (2, 218), (0, 7), (0, 0), (4, 0)]) dX12_cup_113 rfl rfl rfl ?_
    exact l1 c1
  · skip
    refine q_aload_n dX12_cup_69 rfl rfl ?_
    refine q_getR (ci := 12) (k := 46) dX12_cup_70 rfl (by decide) rfl tw1229 (by decide) qs188 qw188_46 (by decide) ?_
    refine q_aload_n dX12_cup_73 rfl rfl ?_
    refine q_getR (ci := 12) (k := 8) dX12_cup_74 rfl (by decide) rfl tw1191 (by decide) qs188 qw188_8 (by decide) ?_
    refine qx_bipush dX12_cup_77 rfl rfl ?_
    refine q_iload_n dX12_cup_79 rfl rfl ?_
    refine qx_imul dX12_cup_80 (o2 c1).1 ?_
    refine q_iload dX12_cup_81 rfl ?_
    refine qx_iadd dX12_cup_83 (o2 c1).2.1 ?_
    refine qx_iald (v := (mem 196 ((60 * j) + v4))) dX12_cup_84 qs196 (o2 c1).2.2.1 rfl ?_
    refine q_dup2 dX12_cup_85 (fun h => by cases h) (fun h => by cases h) ?_
    refine qx_iald (v := (mem 218 (mem 196 ((60 * j) + v4)))) dX12_cup_86 qs218 (o2 c1).2.2.2.1 rfl ?_
    refine qx_iconst dX12_cup_87 rfl rfl ?_
    refine qx_iadd dX12_cup_88 (o2 c1).2.2.2.2.1 ?_
    refine q_iast dX12_cup_89 qs218 ((o2 c1).2.2.2.1).1 ((o2 c1).2.2.2.1).2 ?_
    refine qx_iinc (L' := [(2, 188), (0, j), (0, v), (0, v3), (0, (v4 + 1)), (4, 0), (4, 0), (4, 0)]) dX12_cup_90 rfl rfl rfl (o2 c1).2.2.2.2.2 rfl ?_
    refine q_goto (tgt := 63) dX12_cup_93 (by decide) ?_
    exact l3 c1
theorem bkX12_cup_115 {b : Int} {mem : qm} {Q : Int → qm → Prop}
    {j v v3 v5 v6 : Int}
    (l1 : v5 ≤ v6 → Q v3 mem)
    (o2 : v6 < v5 → (0 ≤ v6 ∧ v6 < 7) ∧ (0 ≤ (mem 188 16) ∧ (mem 188 16) < 16) ∧ q_in32 (v6 + 1))
    (l3 : v6 < v5 → q_At yX12_cup cX12_cup 8 (some .int) 3 0 0 (qK (q_rb b) Q) 115 [(2, 188), (0, j), (0, v), (0, v3), (2, 218), (0, v5), (0, (v6 + 1)), (4, 0)] [] (q_sh0, q_rb b, (q_up (q_up mem 199 (mem 188 16) (mem 218 v6)) 188 16 ((mem 188 16) + 1)))) :
    q_At yX12_cup cX12_cup 8 (some .int) 3 0 0 (qK (q_rb b) Q) 115 [(2, 188), (0, j), (0, v), (0, v3), (2, 218), (0, v5), (0, v6), (4, 0)] [] (q_sh0, q_rb b, mem) := by
  refine q_iload dX12_cup_115 rfl ?_
  refine q_iload dX12_cup_117 rfl ?_
  refine qx_icmp_ge (tgt := 141) dX12_cup_119 (by decide) (fun c1 => ?_) (fun c1 => ?_)
  · skip
    refine q_iload_n dX12_cup_141 rfl rfl ?_
    exact q_iret dX12_cup_142 (qK_i (l1 c1))
  · skip
    refine q_aload dX12_cup_122 rfl ?_
    refine q_iload dX12_cup_124 rfl ?_
    refine qx_iald (v := (mem 218 v6)) dX12_cup_126 qs218 (o2 c1).1 rfl ?_
    refine qx_istore (L' := [(2, 188), (0, j), (0, v), (0, v3), (2, 218), (0, v5), (0, v6), (0, (mem 218 v6))]) dX12_cup_127 rfl rfl rfl ?_
    refine q_aload_n dX12_cup_129 rfl rfl ?_
    refine q_iload dX12_cup_130 rfl ?_
    refine qx_invV (ci := 12) [(0, (mem 218 v6))] [(0, (mem 218 v6)), (2, 188)] rfl qM_X12_tell dX12_cup_132 tw1509 rfl qs188 rfl rfl rfl rfl (spX12_tell (o2 c1).2.1) (fun r2 m2 p2 q2 => ?_)
    obtain rfl := p2
    refine qx_iinc (L' := [(2, 188), (0, j), (0, v), (0, v3), (2, 218), (0, v5), (0, (v6 + 1)), (0, (mem 218 v6))]) dX12_cup_135 rfl rfl rfl (o2 c1).2.2 rfl ?_
    refine q_goto (tgt := 115) dX12_cup_138 (by decide) ?_
    refine q_kill (L' := [(2, 188), (0, j), (0, v), (0, v3), (2, 218), (0, v5), (0, (v6 + 1)), (4, 0)]) 7 rfl ?_
    exact l3 c1
theorem dX12_spread_0 : decode cX12_spread 0 = .ok (.aload_n 0, 1) := by decide +kernel
theorem dX12_spread_1 : decode cX12_spread 1 = .ok (.iconst 0, 1) := by decide +kernel
theorem dX12_spread_2 : decode cX12_spread 2 = .ok (.putfield 128, 3) := by decide +kernel
theorem dX12_spread_5 : decode cX12_spread 5 = .ok (.iload_n 1, 1) := by decide +kernel
theorem dX12_spread_6 : decode cX12_spread 6 = .ok (.invokestatic 254, 3) := by decide +kernel
theorem dX12_spread_9 : decode cX12_spread 9 = .ok (.ifCond .ne 5, 3) := by decide +kernel
theorem dX12_spread_12 : decode cX12_spread 12 = .ok (.iconst (-1), 1) := by decide +kernel
theorem dX12_spread_13 : decode cX12_spread 13 = .ok (.ireturn, 1) := by decide +kernel
theorem dX12_spread_14 : decode cX12_spread 14 = .ok (.iconst 0, 1) := by decide +kernel
theorem dX12_spread_15 : decode cX12_spread 15 = .ok (.istore_n 2, 1) := by decide +kernel
theorem dX12_spread_16 : decode cX12_spread 16 = .ok (.iconst 0, 1) := by decide +kernel
theorem dX12_spread_17 : decode cX12_spread 17 = .ok (.istore_n 3, 1) := by decide +kernel
theorem dX12_spread_18 : decode cX12_spread 18 = .ok (.iconst 0, 1) := by decide +kernel
theorem dX12_spread_19 : decode cX12_spread 19 = .ok (.istore 4, 2) := by decide +kernel
theorem dX12_spread_21 : decode cX12_spread 21 = .ok (.iconst 0, 1) := by decide +kernel
theorem dX12_spread_22 : decode cX12_spread 22 = .ok (.istore 5, 2) := by decide +kernel
theorem dX12_spread_24 : decode cX12_spread 24 = .ok (.iload 5, 2) := by decide +kernel
theorem dX12_spread_26 : decode cX12_spread 26 = .ok (.aload_n 0, 1) := by decide +kernel
theorem dX12_spread_27 : decode cX12_spread 27 = .ok (.getfield 134, 3) := by decide +kernel
theorem dX12_spread_30 : decode cX12_spread 30 = .ok (.if_icmp .ge 55, 3) := by decide +kernel
theorem dX12_spread_33 : decode cX12_spread 33 = .ok (.aload_n 0, 1) := by decide +kernel
theorem dX12_spread_34 : decode cX12_spread 34 = .ok (.iload 5, 2) := by decide +kernel
theorem dX12_spread_36 : decode cX12_spread 36 = .ok (.iload_n 1, 1) := by decide +kernel
theorem dX12_spread_37 : decode cX12_spread 37 = .ok (.invokevirtual 366, 3) := by decide +kernel
theorem dX12_spread_40 : decode cX12_spread 40 = .ok (.istore 6, 2) := by decide +kernel
theorem dX12_spread_42 : decode cX12_spread 42 = .ok (.iload_n 2, 1) := by decide +kernel
theorem dX12_spread_43 : decode cX12_spread 43 = .ok (.iload 6, 2) := by decide +kernel
theorem dX12_spread_45 : decode cX12_spread 45 = .ok (.iadd, 1) := by decide +kernel
theorem dX12_spread_46 : decode cX12_spread 46 = .ok (.istore_n 2, 1) := by decide +kernel
theorem dX12_spread_47 : decode cX12_spread 47 = .ok (.iload 4, 2) := by decide +kernel
theorem dX12_spread_49 : decode cX12_spread 49 = .ok (.iload 6, 2) := by decide +kernel
theorem dX12_spread_51 : decode cX12_spread 51 = .ok (.ifCond .le 10, 3) := by decide +kernel
theorem dX12_spread_54 : decode cX12_spread 54 = .ok (.iconst 1, 1) := by decide +kernel
theorem dX12_spread_55 : decode cX12_spread 55 = .ok (.iload 5, 2) := by decide +kernel
theorem dX12_spread_57 : decode cX12_spread 57 = .ok (.ishl, 1) := by decide +kernel
theorem dX12_spread_58 : decode cX12_spread 58 = .ok (.goto 4, 3) := by decide +kernel
theorem dX12_spread_61 : decode cX12_spread 61 = .ok (.iconst 0, 1) := by decide +kernel
theorem dX12_spread_62 : decode cX12_spread 62 = .ok (.ior, 1) := by decide +kernel
theorem dX12_spread_63 : decode cX12_spread 63 = .ok (.istore 4, 2) := by decide +kernel
theorem dX12_spread_65 : decode cX12_spread 65 = .ok (.iload 6, 2) := by decide +kernel
theorem dX12_spread_67 : decode cX12_spread 67 = .ok (.aload_n 0, 1) := by decide +kernel
theorem dX12_spread_68 : decode cX12_spread 68 = .ok (.iload_n 3, 1) := by decide +kernel
theorem dX12_spread_69 : decode cX12_spread 69 = .ok (.iload_n 1, 1) := by decide +kernel
theorem dX12_spread_70 : decode cX12_spread 70 = .ok (.invokevirtual 366, 3) := by decide +kernel
theorem dX12_spread_73 : decode cX12_spread 73 = .ok (.if_icmp .le 6, 3) := by decide +kernel
theorem dX12_spread_76 : decode cX12_spread 76 = .ok (.iload 5, 2) := by decide +kernel
theorem dX12_spread_78 : decode cX12_spread 78 = .ok (.istore_n 3, 1) := by decide +kernel
theorem dX12_spread_79 : decode cX12_spread 79 = .ok (.iinc 5 1, 3) := by decide +kernel
theorem dX12_spread_82 : decode cX12_spread 82 = .ok (.goto (-58), 3) := by decide +kernel
theorem dX12_spread_85 : decode cX12_spread 85 = .ok (.aload_n 0, 1) := by decide +kernel
theorem dX12_spread_86 : decode cX12_spread 86 = .ok (.iconst 0, 1) := by decide +kernel
theorem dX12_spread_87 : decode cX12_spread 87 = .ok (.putfield 131, 3) := by decide +kernel
theorem dX12_spread_90 : decode cX12_spread 90 = .ok (.iload_n 2, 1) := by decide +kernel
theorem dX12_spread_91 : decode cX12_spread 91 = .ok (.ifCond .le 24, 3) := by decide +kernel
theorem dX12_spread_94 : decode cX12_spread 94 = .ok (.aload_n 0, 1) := by decide +kernel
theorem dX12_spread_95 : decode cX12_spread 95 = .ok (.iload_n 3, 1) := by decide +kernel
theorem dX12_spread_96 : decode cX12_spread 96 = .ok (.invokevirtual 276, 3) := by decide +kernel
theorem dX12_spread_99 : decode cX12_spread 99 = .ok (.aload_n 0, 1) := by decide +kernel
theorem dX12_spread_100 : decode cX12_spread 100 = .ok (.aload_n 0, 1) := by decide +kernel
theorem dX12_spread_101 : decode cX12_spread 101 = .ok (.iload_n 3, 1) := by decide +kernel
theorem dX12_spread_102 : decode cX12_spread 102 = .ok (.iload_n 1, 1) := by decide +kernel
theorem dX12_spread_103 : decode cX12_spread 103 = .ok (.invokevirtual 366, 3) := by decide +kernel
theorem dX12_spread_106 : decode cX12_spread 106 = .ok (.invokevirtual 276, 3) := by decide +kernel
theorem dX12_spread_109 : decode cX12_spread 109 = .ok (.aload_n 0, 1) := by decide +kernel
theorem dX12_spread_110 : decode cX12_spread 110 = .ok (.iload 4, 2) := by decide +kernel
theorem dX12_spread_112 : decode cX12_spread 112 = .ok (.invokevirtual 276, 3) := by decide +kernel
theorem dX12_spread_115 : decode cX12_spread 115 = .ok (.iload_n 2, 1) := by decide +kernel
theorem dX12_spread_116 : decode cX12_spread 116 = .ok (.ireturn, 1) := by decide +kernel
theorem bkX12_spread_0 {b : Int} {mem : qm} {Q : Int → qm → Prop}
    {v : Int}
    (l1 : (0 ≤ v ∧ v ≤ 6) → q_At yX12_spread cX12_spread 7 (some .int) 3 0 0 (qK (q_rb b) Q) 24 [(2, 188), (0, v), (0, 0), (0, 0), (0, 0), (0, 0), (4, 0)] [] (q_sh0, q_rb b, (q_up mem 188 17 0)))
    (l2 : ¬ (0 ≤ v ∧ v ≤ 6) → Q (-1) (q_up mem 188 17 0)) :
    q_At yX12_spread cX12_spread 7 (some .int) 3 0 0 (qK (q_rb b) Q) 0 [(2, 188), (0, v), (4, 0), (4, 0), (4, 0), (4, 0), (4, 0)] [] (q_sh0, q_rb b, mem) := by
  refine q_aload_n dX12_spread_0 rfl rfl ?_
  refine qx_iconst dX12_spread_1 rfl rfl ?_
  refine q_putI (ci := 12) (k := 17) (kI := 17) (ty := .int) dX12_spread_2 rfl (by decide) rfl tw1200 rfl rfl rfl (fun _ => ⟨rfl, rfl⟩) qs188 ?_
  refine q_iload_n dX12_spread_5 rfl rfl ?_
  refine qx_invS [(0, v)] [(0, v)] rfl qM_X12_isOrigin dX12_spread_6 tw1463 rfl rfl rfl rfl (spX12_isOrigin) (fun r1 m1 p1 q1 => ?_)
  obtain ⟨p1e, ⟨p1f, p1⟩ | ⟨p1f, p1⟩⟩ := p1
  · rw [p1e, p1f]
    refine qx_if_ne (tgt := 14) dX12_spread_9 (by decide) (fun _ => ?_) (fun z => absurd z (by decide))
    refine qx_iconst dX12_spread_14 rfl rfl ?_
    refine qx_istore_n (L' := [(2, 188), (0, v), (0, 0), (4, 0), (4, 0), (4, 0), (4, 0)]) dX12_spread_15 rfl rfl rfl rfl ?_
    refine qx_iconst dX12_spread_16 rfl rfl ?_
    refine qx_istore_n (L' := [(2, 188), (0, v), (0, 0), (0, 0), (4, 0), (4, 0), (4, 0)]) dX12_spread_17 rfl rfl rfl rfl ?_
    refine qx_iconst dX12_spread_18 rfl rfl ?_
    refine qx_istore (L' := [(2, 188), (0, v), (0, 0), (0, 0), (0, 0), (4, 0), (4, 0)]) dX12_spread_19 rfl rfl rfl ?_
    refine qx_iconst dX12_spread_21 rfl rfl ?_
    refine qx_istore (L' := [(2, 188), (0, v), (0, 0), (0, 0), (0, 0), (0, 0), (4, 0)]) dX12_spread_22 rfl rfl rfl ?_
    exact l1 p1
  · rw [p1e, p1f]
    refine qx_if_ne (tgt := 14) dX12_spread_9 (by decide) (fun z => absurd z (by decide)) (fun _ => ?_)
    refine qx_iconst dX12_spread_12 rfl rfl ?_
    exact q_iret dX12_spread_13 (qK_i (l2 p1))
theorem bkX12_spread_24 {b : Int} {mem : qm} {Q : Int → qm → Prop}
    {v v2 v3 v4 v5 : Int}
    (l1 : (mem 188 0) ≤ v5 → v2 ≤ 0 → Q v2 (q_up mem 188 16 0))
    (o2 : (mem 188 0) ≤ v5 → 0 < v2 → (0 ≤ (0 : Int) ∧ (0 : Int) < 16))
    {P4 : Int → qm → Prop}
    (l3 : (mem 188 0) ≤ v5 → 0 < v2 → q_Ev yX12_shareOf cX12_shareOf 5 (some .int) 1 0 0 [(2, 188), (0, v3), (0, v)] (q_sh0, q_rb b, (q_up (q_up (q_up mem 188 16 0) 199 (0 : Int) v3) 188 16 ((0 : Int) + 1))) (qK (q_rb b) (P4)))
    (o4 : (mem 188 0) ≤ v5 → 0 < v2 → ∀ (r4 : Int), ∀ (m4 : qm), P4 r4 m4 → q_in32 r4 → (0 ≤ (m4 188 16) ∧ (m4 188 16) < 16) ∧ (0 ≤ ((m4 188 16) + 1) ∧ ((m4 188 16) + 1) < 16))
    (l5 : (mem 188 0) ≤ v5 → 0 < v2 → ∀ (r4 : Int), ∀ (m4 : qm), P4 r4 m4 → q_in32 r4 → Q v2 (q_up (q_up (q_up (q_up m4 199 (m4 188 16) r4) 188 16 ((m4 188 16) + 1)) 199 ((m4 188 16) + 1) v4) 188 16 (((m4 188 16) + 1) + 1)))
    {P7 : Int → qm → Prop}
    (l6 : v5 < (mem 188 0) → q_Ev yX12_shareOf cX12_shareOf 5 (some .int) 1 0 0 [(2, 188), (0, v5), (0, v)] (q_sh0, q_rb b, mem) (qK (q_rb b) (P7)))
    (o7 : v5 < (mem 188 0) → ∀ (r7 : Int), ∀ (m7 : qm), P7 r7 m7 → q_in32 r7 → q_in32 (v2 + r7))
    {P9 : Int → qm → Int → qm → Prop}
    (l8 : v5 < (mem 188 0) → ∀ (r7 : Int), ∀ (m7 : qm), P7 r7 m7 → q_in32 r7 → r7 ≤ 0 → q_Ev yX12_shareOf cX12_shareOf 5 (some .int) 1 0 0 [(2, 188), (0, v3), (0, v)] (q_sh0, q_rb b, m7) (qK (q_rb b) (P9 r7 m7)))
    (o9 : v5 < (mem 188 0) → ∀ (r7 : Int), ∀ (m7 : qm), P7 r7 m7 → q_in32 r7 → r7 ≤ 0 → ∀ (r9 : Int), ∀ (m9 : qm), P9 r7 m7 r9 m9 → q_in32 r9 → r7 ≤ r9 → q_in32 (v5 + 1))
    (l10 : v5 < (mem 188 0) → ∀ (r7 : Int), ∀ (m7 : qm), P7 r7 m7 → q_in32 r7 → r7 ≤ 0 → ∀ (r9 : Int), ∀ (m9 : qm), P9 r7 m7 r9 m9 → q_in32 r9 → r7 ≤ r9 → q_At yX12_spread cX12_spread 7 (some .int) 3 0 0 (qK (q_rb b) Q) 24 [(2, 188), (0, v), (0, (v2 + r7)), (0, v3), (0, (q_oior v4 0)), (0, (v5 + 1)), (4, 0)] [] (q_sh0, q_rb b, m9))
    (o11 : v5 < (mem 188 0) → ∀ (r7 : Int), ∀ (m7 : qm), P7 r7 m7 → q_in32 r7 → r7 ≤ 0 → ∀ (r9 : Int), ∀ (m9 : qm), P9 r7 m7 r9 m9 → q_in32 r9 → r9 < r7 → q_in32 (v5 + 1))
    (l12 : v5 < (mem 188 0) → ∀ (r7 : Int), ∀ (m7 : qm), P7 r7 m7 → q_in32 r7 → r7 ≤ 0 → ∀ (r9 : Int), ∀ (m9 : qm), P9 r7 m7 r9 m9 → q_in32 r9 → r9 < r7 → q_At yX12_spread cX12_spread 7 (some .int) 3 0 0 (qK (q_rb b) Q) 24 [(2, 188), (0, v), (0, (v2 + r7)), (0, v5), (0, (q_oior v4 0)), (0, (v5 + 1)), (4, 0)] [] (q_sh0, q_rb b, m9))
    {P11 : Int → qm → Int → qm → Prop}
    (l13 : v5 < (mem 188 0) → ∀ (r7 : Int), ∀ (m7 : qm), P7 r7 m7 → q_in32 r7 → 0 < r7 → q_Ev yX12_shareOf cX12_shareOf 5 (some .int) 1 0 0 [(2, 188), (0, v3), (0, v)] (q_sh0, q_rb b, m7) (qK (q_rb b) (P11 r7 m7)))
    (o14 : v5 < (mem 188 0) → ∀ (r7 : Int), ∀ (m7 : qm), P7 r7 m7 → q_in32 r7 → 0 < r7 → ∀ (r11 : Int), ∀ (m11 : qm), P11 r7 m7 r11 m11 → q_in32 r11 → r7 ≤ r11 → q_in32 (v5 + 1))
    (l15 : v5 < (mem 188 0) → ∀ (r7 : Int), ∀ (m7 : qm), P7 r7 m7 → q_in32 r7 → 0 < r7 → ∀ (r11 : Int), ∀ (m11 : qm), P11 r7 m7 r11 m11 → q_in32 r11 → r7 ≤ r11 → q_At yX12_spread cX12_spread 7 (some .int) 3 0 0 (qK (q_rb b) Q) 24 [(2, 188), (0, v), (0, (v2 + r7)), (0, v3), (0, (q_oior v4 (q_oishl 1 v5))), (0, (v5 + 1)), (4, 0)] [] (q_sh0, q_rb b, m11))
    (o16 : v5 < (mem 188 0) → ∀ (r7 : Int), ∀ (m7 : qm), P7 r7 m7 → q_in32 r7 → 0 < r7 → ∀ (r11 : Int), ∀ (m11 : qm), P11 r7 m7 r11 m11 → q_in32 r11 → r11 < r7 → q_in32 (v5 + 1))
    (l17 : v5 < (mem 188 0) → ∀ (r7 : Int), ∀ (m7 : qm), P7 r7 m7 → q_in32 r7 → 0 < r7 → ∀ (r11 : Int), ∀ (m11 : qm), P11 r7 m7 r11 m11 → q_in32 r11 → r11 < r7 → q_At yX12_spread cX12_spread 7 (some .int) 3 0 0 (qK (q_rb b) Q) 24 [(2, 188), (0, v), (0, (v2 + r7)), (0, v5), (0, (q_oior v4 (q_oishl 1 v5))), (0, (v5 + 1)), (4, 0)] [] (q_sh0, q_rb b, m11)) :
    q_At yX12_spread cX12_spread 7 (some .int) 3 0 0 (qK (q_rb b) Q) 24 [(2, 188), (0, v), (0, v2), (0, v3), (0, v4), (0, v5), (4, 0)] [] (q_sh0, q_rb b, mem) := by
  refine q_iload dX12_spread_24 rfl ?_
  refine q_aload_n dX12_spread_26 rfl rfl ?_
  refine qx_getI (ci := 12) (k := 0) (v := (mem 188 0)) dX12_spread_27 rfl rfl rfl tw1183 rfl qs188 rfl ?_
  refine qx_icmp_ge (tgt := 85) dX12_spread_30 (by decide) (fun c1 => ?_) (fun c1 => ?_)
  · skip
    refine q_aload_n dX12_spread_85 rfl rfl ?_
    refine qx_iconst dX12_spread_86 rfl rfl ?_
    refine q_putI (ci := 12) (k := 16) (kI := 16) (ty := .int) dX12_spread_87 rfl (by decide) rfl tw1199 rfl rfl rfl (fun _ => ⟨rfl, rfl⟩) qs188 ?_
    refine q_iload_n dX12_spread_90 rfl rfl ?_
    refine qx_if_le (tgt := 115) dX12_spread_91 (by decide) (fun c2 => ?_) (fun c2 => ?_)
    · skip
      refine q_iload_n dX12_spread_115 rfl rfl ?_
      exact q_iret dX12_spread_116 (qK_i (l1 c1 c2))
    · skip
      refine q_aload_n dX12_spread_94 rfl rfl ?_
      refine q_iload_n dX12_spread_95 rfl rfl ?_
      refine qx_invV (ci := 12) [(0, v3)] [(0, v3), (2, 188)] rfl qM_X12_tell dX12_spread_96 tw1509 rfl qs188 rfl rfl rfl rfl (spX12_tell (by first | exact (o2 c1 c2) | (simp only [q_up, Int.reduceEq, false_and, true_and, and_true, and_false, ite_false, ite_true, if_true, if_false]; exact (o2 c1 c2)))) (fun r3 m3 p3 q3 => ?_)
      obtain rfl := p3
      refine q_aload_n dX12_spread_99 rfl rfl ?_
      refine q_aload_n dX12_spread_100 rfl rfl ?_
      refine q_iload_n dX12_spread_101 rfl rfl ?_
      refine q_iload_n dX12_spread_102 rfl rfl ?_
      refine qx_invV (ci := 12) [(0, v3), (0, v)] [(0, v), (0, v3), (2, 188), (2, 188)] rfl qM_X12_shareOf dX12_spread_103 tw1683 rfl qs188 rfl rfl rfl rfl (l3 c1 c2) (fun r4 m4 p4 q4 => ?_)
      refine qx_invV (ci := 12) [(0, r4)] [(0, r4), (2, 188)] rfl qM_X12_tell dX12_spread_106 tw1509 rfl qs188 rfl rfl rfl rfl (spX12_tell (o4 c1 c2 r4 m4 p4 q4).1) (fun r5 m5 p5 q5 => ?_)
      obtain rfl := p5
      refine q_aload_n dX12_spread_109 rfl rfl ?_
      refine q_iload dX12_spread_110 rfl ?_
      refine qx_invV (ci := 12) [(0, v4)] [(0, v4), (2, 188)] rfl qM_X12_tell dX12_spread_112 tw1509 rfl qs188 rfl rfl rfl rfl (spX12_tell (by first | exact (o4 c1 c2 r4 m4 p4 q4).2 | (simp only [q_up, Int.reduceEq, false_and, true_and, and_true, and_false, ite_false, ite_true, if_true, if_false]; exact (o4 c1 c2 r4 m4 p4 q4).2))) (fun r6 m6 p6 q6 => ?_)
      obtain rfl := p6
      refine q_iload_n dX12_spread_115 rfl rfl ?_
      exact q_iret dX12_spread_116 (qK_i (l5 c1 c2 r4 m4 p4 q4))
  · skip
    refine q_aload_n dX12_spread_33 rfl rfl ?_
    refine q_iload dX12_spread_34 rfl ?_
    refine q_iload_n dX12_spread_36 rfl rfl ?_
    refine qx_invV (ci := 12) [(0, v5), (0, v)] [(0, v), (0, v5), (2, 188)] rfl qM_X12_shareOf dX12_spread_37 tw1683 rfl qs188 rfl rfl rfl rfl (l6 c1) (fun r7 m7 p7 q7 => ?_)
    refine qx_istore (L' := [(2, 188), (0, v), (0, v2), (0, v3), (0, v4), (0, v5), (0, r7)]) dX12_spread_40 rfl rfl rfl ?_
    refine q_iload_n dX12_spread_42 rfl rfl ?_
    refine q_iload dX12_spread_43 rfl ?_
    refine qx_iadd dX12_spread_45 (o7 c1 r7 m7 p7 q7) ?_
    refine qx_istore_n (L' := [(2, 188), (0, v), (0, (v2 + r7)), (0, v3), (0, v4), (0, v5), (0, r7)]) dX12_spread_46 rfl rfl rfl rfl ?_
    refine q_iload dX12_spread_47 rfl ?_
    refine q_iload dX12_spread_49 rfl ?_
    refine qx_if_le (tgt := 61) dX12_spread_51 (by decide) (fun c8 => ?_) (fun c8 => ?_)
    · skip
      refine qx_iconst dX12_spread_61 rfl rfl ?_
      refine q_ior dX12_spread_62 ?_
      refine qx_istore (L' := [(2, 188), (0, v), (0, (v2 + r7)), (0, v3), (0, (q_oior v4 0)), (0, v5), (0, r7)]) dX12_spread_63 rfl rfl rfl ?_
      refine q_iload dX12_spread_65 rfl ?_
      refine q_aload_n dX12_spread_67 rfl rfl ?_
      refine q_iload_n dX12_spread_68 rfl rfl ?_
      refine q_iload_n dX12_spread_69 rfl rfl ?_
      refine qx_invV (ci := 12) [(0, v3), (0, v)] [(0, v), (0, v3), (2, 188), (0, r7)] rfl qM_X12_shareOf dX12_spread_70 tw1683 rfl qs188 rfl rfl rfl rfl (l8 c1 r7 m7 p7 q7 c8) (fun r9 m9 p9 q9 => ?_)
      refine qx_icmp_le (tgt := 79) dX12_spread_73 (by decide) (fun c10 => ?_) (fun c10 => ?_)
      · skip
        refine qx_iinc (L' := [(2, 188), (0, v), (0, (v2 + r7)), (0, v3), (0, (q_oior v4 0)), (0, (v5 + 1)), (0, r7)]) dX12_spread_79 rfl rfl rfl (o9 c1 r7 m7 p7 q7 c8 r9 m9 p9 q9 c10) rfl ?_
        refine q_goto (tgt := 24) dX12_spread_82 (by decide) ?_
        refine q_kill (L' := [(2, 188), (0, v), (0, (v2 + r7)), (0, v3), (0, (q_oior v4 0)), (0, (v5 + 1)), (4, 0)]) 6 rfl ?_
        exact l10 c1 r7 m7 p7 q7 c8 r9 m9 p9 q9 c10
      · skip
        refine q_iload dX12_spread_76 rfl ?_
        refine qx_istore_n (L' := [(2, 188), (0, v), (0, (v2 + r7)), (0, v5), (0, (q_oior v4 0)), (0, v5), (0, r7)]) dX12_spread_78 rfl rfl rfl rfl ?_
        refine qx_iinc (L' := [(2, 188), (0, v), (0, (v2 + r7)), (0, v5), (0, (q_oior v4 0)), (0, (v5 + 1)), (0, r7)]) dX12_spread_79 rfl rfl rfl (o11 c1 r7 m7 p7 q7 c8 r9 m9 p9 q9 c10) rfl ?_
        refine q_goto (tgt := 24) dX12_spread_82 (by decide) ?_
        refine q_kill (L' := [(2, 188), (0, v), (0, (v2 + r7)), (0, v5), (0, (q_oior v4 0)), (0, (v5 + 1)), (4, 0)]) 6 rfl ?_
        exact l12 c1 r7 m7 p7 q7 c8 r9 m9 p9 q9 c10
    · skip
      refine qx_iconst dX12_spread_54 rfl rfl ?_
      refine q_iload dX12_spread_55 rfl ?_
      refine q_ishl dX12_spread_57 ?_
      refine q_goto (tgt := 62) dX12_spread_58 (by decide) ?_
      refine q_ior dX12_spread_62 ?_
      refine qx_istore (L' := [(2, 188), (0, v), (0, (v2 + r7)), (0, v3), (0, (q_oior v4 (q_oishl 1 v5))), (0, v5), (0, r7)]) dX12_spread_63 rfl rfl rfl ?_
      refine q_iload dX12_spread_65 rfl ?_
      refine q_aload_n dX12_spread_67 rfl rfl ?_
      refine q_iload_n dX12_spread_68 rfl rfl ?_
      refine q_iload_n dX12_spread_69 rfl rfl ?_
      refine qx_invV (ci := 12) [(0, v3), (0, v)] [(0, v), (0, v3), (2, 188), (0, r7)] rfl qM_X12_shareOf dX12_spread_70 tw1683 rfl qs188 rfl rfl rfl rfl (l13 c1 r7 m7 p7 q7 c8) (fun r11 m11 p11 q11 => ?_)
      refine qx_icmp_le (tgt := 79) dX12_spread_73 (by decide) (fun c12 => ?_) (fun c12 => ?_)
      · skip
        refine qx_iinc (L' := [(2, 188), (0, v), (0, (v2 + r7)), (0, v3), (0, (q_oior v4 (q_oishl 1 v5))), (0, (v5 + 1)), (0, r7)]) dX12_spread_79 rfl rfl rfl (o14 c1 r7 m7 p7 q7 c8 r11 m11 p11 q11 c12) rfl ?_
        refine q_goto (tgt := 24) dX12_spread_82 (by decide) ?_
        refine q_kill (L' := [(2, 188), (0, v), (0, (v2 + r7)), (0, v3), (0, (q_oior v4 (q_oishl 1 v5))), (0, (v5 + 1)), (4, 0)]) 6 rfl ?_
        exact l15 c1 r7 m7 p7 q7 c8 r11 m11 p11 q11 c12
      · skip
        refine q_iload dX12_spread_76 rfl ?_
        refine qx_istore_n (L' := [(2, 188), (0, v), (0, (v2 + r7)), (0, v5), (0, (q_oior v4 (q_oishl 1 v5))), (0, v5), (0, r7)]) dX12_spread_78 rfl rfl rfl rfl ?_
        refine qx_iinc (L' := [(2, 188), (0, v), (0, (v2 + r7)), (0, v5), (0, (q_oior v4 (q_oishl 1 v5))), (0, (v5 + 1)), (0, r7)]) dX12_spread_79 rfl rfl rfl (o16 c1 r7 m7 p7 q7 c8 r11 m11 p11 q11 c12) rfl ?_
        refine q_goto (tgt := 24) dX12_spread_82 (by decide) ?_
        refine q_kill (L' := [(2, 188), (0, v), (0, (v2 + r7)), (0, v5), (0, (q_oior v4 (q_oishl 1 v5))), (0, (v5 + 1)), (4, 0)]) 6 rfl ?_
        exact l17 c1 r7 m7 p7 q7 c8 r11 m11 p11 q11 c12
theorem dX12_lay_0 : decode cX12_lay 0 = .ok (.iload_n 2, 1) := by decide +kernel
theorem dX12_lay_1 : decode cX12_lay 1 = .ok (.istore_n 3, 1) := by decide +kernel
theorem dX12_lay_2 : decode cX12_lay 2 = .ok (.iconst 0, 1) := by decide +kernel
theorem dX12_lay_3 : decode cX12_lay 3 = .ok (.istore 4, 2) := by decide +kernel
theorem dX12_lay_5 : decode cX12_lay 5 = .ok (.iload 4, 2) := by decide +kernel
theorem dX12_lay_7 : decode cX12_lay 7 = .ok (.sipush 540, 3) := by decide +kernel
theorem dX12_lay_10 : decode cX12_lay 10 = .ok (.if_icmp .ge 22, 3) := by decide +kernel
theorem dX12_lay_13 : decode cX12_lay 13 = .ok (.aload_n 1, 1) := by decide +kernel
theorem dX12_lay_14 : decode cX12_lay 14 = .ok (.iload_n 3, 1) := by decide +kernel
theorem dX12_lay_15 : decode cX12_lay 15 = .ok (.iload 4, 2) := by decide +kernel
theorem dX12_lay_17 : decode cX12_lay 17 = .ok (.iadd, 1) := by decide +kernel
theorem dX12_lay_18 : decode cX12_lay 18 = .ok (.aload_n 0, 1) := by decide +kernel
theorem dX12_lay_19 : decode cX12_lay 19 = .ok (.getfield 31, 3) := by decide +kernel
theorem dX12_lay_22 : decode cX12_lay 22 = .ok (.iload 4, 2) := by decide +kernel
theorem dX12_lay_24 : decode cX12_lay 24 = .ok (.iaload, 1) := by decide +kernel
theorem dX12_lay_25 : decode cX12_lay 25 = .ok (.iastore, 1) := by decide +kernel
theorem dX12_lay_26 : decode cX12_lay 26 = .ok (.iinc 4 1, 3) := by decide +kernel
theorem dX12_lay_29 : decode cX12_lay 29 = .ok (.goto (-24), 3) := by decide +kernel
theorem dX12_lay_32 : decode cX12_lay 32 = .ok (.iinc 3 540, 6) := by decide +kernel
theorem dX12_lay_38 : decode cX12_lay 38 = .ok (.iconst 0, 1) := by decide +kernel
theorem dX12_lay_39 : decode cX12_lay 39 = .ok (.istore 4, 2) := by decide +kernel
theorem dX12_lay_41 : decode cX12_lay 41 = .ok (.iload 4, 2) := by decide +kernel
theorem dX12_lay_43 : decode cX12_lay 43 = .ok (.bipush 9, 2) := by decide +kernel
theorem dX12_lay_45 : decode cX12_lay 45 = .ok (.if_icmp .ge 41, 3) := by decide +kernel
theorem dX12_lay_48 : decode cX12_lay 48 = .ok (.aload_n 1, 1) := by decide +kernel
theorem dX12_lay_49 : decode cX12_lay 49 = .ok (.iload_n 3, 1) := by decide +kernel
theorem dX12_lay_50 : decode cX12_lay 50 = .ok (.iconst 2, 1) := by decide +kernel
theorem dX12_lay_51 : decode cX12_lay 51 = .ok (.iload 4, 2) := by decide +kernel
theorem dX12_lay_53 : decode cX12_lay 53 = .ok (.imul, 1) := by decide +kernel
theorem dX12_lay_54 : decode cX12_lay 54 = .ok (.iadd, 1) := by decide +kernel
theorem dX12_lay_55 : decode cX12_lay 55 = .ok (.aload_n 0, 1) := by decide +kernel
theorem dX12_lay_56 : decode cX12_lay 56 = .ok (.getfield 13, 3) := by decide +kernel
theorem dX12_lay_59 : decode cX12_lay 59 = .ok (.iload 4, 2) := by decide +kernel
theorem dX12_lay_61 : decode cX12_lay 61 = .ok (.iaload, 1) := by decide +kernel
theorem dX12_lay_62 : decode cX12_lay 62 = .ok (.iastore, 1) := by decide +kernel
theorem dX12_lay_63 : decode cX12_lay 63 = .ok (.aload_n 1, 1) := by decide +kernel
theorem dX12_lay_64 : decode cX12_lay 64 = .ok (.iload_n 3, 1) := by decide +kernel
theorem dX12_lay_65 : decode cX12_lay 65 = .ok (.iconst 2, 1) := by decide +kernel
theorem dX12_lay_66 : decode cX12_lay 66 = .ok (.iload 4, 2) := by decide +kernel
theorem dX12_lay_68 : decode cX12_lay 68 = .ok (.imul, 1) := by decide +kernel
theorem dX12_lay_69 : decode cX12_lay 69 = .ok (.iadd, 1) := by decide +kernel
theorem dX12_lay_70 : decode cX12_lay 70 = .ok (.iconst 1, 1) := by decide +kernel
theorem dX12_lay_71 : decode cX12_lay 71 = .ok (.iadd, 1) := by decide +kernel
theorem dX12_lay_72 : decode cX12_lay 72 = .ok (.aload_n 0, 1) := by decide +kernel
theorem dX12_lay_73 : decode cX12_lay 73 = .ok (.getfield 28, 3) := by decide +kernel
theorem dX12_lay_76 : decode cX12_lay 76 = .ok (.iload 4, 2) := by decide +kernel
theorem dX12_lay_78 : decode cX12_lay 78 = .ok (.iaload, 1) := by decide +kernel
theorem dX12_lay_79 : decode cX12_lay 79 = .ok (.iastore, 1) := by decide +kernel
theorem dX12_lay_80 : decode cX12_lay 80 = .ok (.iinc 4 1, 3) := by decide +kernel
theorem dX12_lay_83 : decode cX12_lay 83 = .ok (.goto (-42), 3) := by decide +kernel
theorem dX12_lay_86 : decode cX12_lay 86 = .ok (.iinc 3 18, 3) := by decide +kernel
theorem dX12_lay_89 : decode cX12_lay 89 = .ok (.iconst 0, 1) := by decide +kernel
theorem dX12_lay_90 : decode cX12_lay 90 = .ok (.istore 4, 2) := by decide +kernel
theorem dX12_lay_92 : decode cX12_lay 92 = .ok (.iload 4, 2) := by decide +kernel
theorem dX12_lay_94 : decode cX12_lay 94 = .ok (.bipush 36, 2) := by decide +kernel
theorem dX12_lay_96 : decode cX12_lay 96 = .ok (.if_icmp .ge 22, 3) := by decide +kernel
theorem dX12_lay_99 : decode cX12_lay 99 = .ok (.aload_n 1, 1) := by decide +kernel
theorem dX12_lay_100 : decode cX12_lay 100 = .ok (.iload_n 3, 1) := by decide +kernel
theorem dX12_lay_101 : decode cX12_lay 101 = .ok (.iload 4, 2) := by decide +kernel
theorem dX12_lay_103 : decode cX12_lay 103 = .ok (.iadd, 1) := by decide +kernel
theorem dX12_lay_104 : decode cX12_lay 104 = .ok (.aload_n 0, 1) := by decide +kernel
theorem dX12_lay_105 : decode cX12_lay 105 = .ok (.getfield 34, 3) := by decide +kernel
theorem dX12_lay_108 : decode cX12_lay 108 = .ok (.iload 4, 2) := by decide +kernel
theorem dX12_lay_110 : decode cX12_lay 110 = .ok (.iaload, 1) := by decide +kernel
theorem dX12_lay_111 : decode cX12_lay 111 = .ok (.iastore, 1) := by decide +kernel
theorem dX12_lay_112 : decode cX12_lay 112 = .ok (.iinc 4 1, 3) := by decide +kernel
theorem dX12_lay_115 : decode cX12_lay 115 = .ok (.goto (-23), 3) := by decide +kernel
theorem dX12_lay_118 : decode cX12_lay 118 = .ok (.iinc 3 36, 3) := by decide +kernel
theorem dX12_lay_121 : decode cX12_lay 121 = .ok (.aload_n 1, 1) := by decide +kernel
theorem dX12_lay_122 : decode cX12_lay 122 = .ok (.iload_n 3, 1) := by decide +kernel
theorem dX12_lay_123 : decode cX12_lay 123 = .ok (.aload_n 0, 1) := by decide +kernel
theorem dX12_lay_124 : decode cX12_lay 124 = .ok (.getfield 216, 3) := by decide +kernel
theorem dX12_lay_127 : decode cX12_lay 127 = .ok (.iastore, 1) := by decide +kernel
theorem dX12_lay_128 : decode cX12_lay 128 = .ok (.aload_n 1, 1) := by decide +kernel
theorem dX12_lay_129 : decode cX12_lay 129 = .ok (.iload_n 3, 1) := by decide +kernel
theorem dX12_lay_130 : decode cX12_lay 130 = .ok (.iconst 1, 1) := by decide +kernel
theorem dX12_lay_131 : decode cX12_lay 131 = .ok (.iadd, 1) := by decide +kernel
theorem dX12_lay_132 : decode cX12_lay 132 = .ok (.aload_n 0, 1) := by decide +kernel
theorem dX12_lay_133 : decode cX12_lay 133 = .ok (.getfield 247, 3) := by decide +kernel
theorem dX12_lay_136 : decode cX12_lay 136 = .ok (.iastore, 1) := by decide +kernel
theorem dX12_lay_137 : decode cX12_lay 137 = .ok (.aload_n 1, 1) := by decide +kernel
theorem dX12_lay_138 : decode cX12_lay 138 = .ok (.iload_n 3, 1) := by decide +kernel
theorem dX12_lay_139 : decode cX12_lay 139 = .ok (.iconst 2, 1) := by decide +kernel
theorem dX12_lay_140 : decode cX12_lay 140 = .ok (.iadd, 1) := by decide +kernel
theorem dX12_lay_141 : decode cX12_lay 141 = .ok (.aload_n 0, 1) := by decide +kernel
theorem dX12_lay_142 : decode cX12_lay 142 = .ok (.getfield 37, 3) := by decide +kernel
theorem dX12_lay_145 : decode cX12_lay 145 = .ok (.iastore, 1) := by decide +kernel
theorem dX12_lay_146 : decode cX12_lay 146 = .ok (.return_, 1) := by decide +kernel
theorem bkX12_lay_0 {b : Int} {mem : qm} {Q : Int → qm → Prop}
    {p c : Int}
    {N : Nat}
    (hc : q_sh0[c.toNat]? = some (0, N))
    (l1 : q_At yX12_lay cX12_lay 5 none 1 0 0 (qK (q_rb b) Q) 5 [(2, 188), (2, c), (0, p), (0, p), (0, 0)] [] (q_sh0, q_rb b, mem)) :
    q_At yX12_lay cX12_lay 5 none 1 0 0 (qK (q_rb b) Q) 0 [(2, 188), (2, c), (0, p), (4, 0), (4, 0)] [] (q_sh0, q_rb b, mem) := by
  refine q_iload_n dX12_lay_0 rfl rfl ?_
  refine qx_istore_n (L' := [(2, 188), (2, c), (0, p), (0, p), (4, 0)]) dX12_lay_1 rfl rfl rfl rfl ?_
  refine qx_iconst dX12_lay_2 rfl rfl ?_
  refine qx_istore (L' := [(2, 188), (2, c), (0, p), (0, p), (0, 0)]) dX12_lay_3 rfl rfl rfl ?_
  exact l1
theorem bkX12_lay_5 {b : Int} {mem : qm} {Q : Int → qm → Prop}
    {p v3 v4 c : Int}
    {N : Nat}
    (hc : q_sh0[c.toNat]? = some (0, N))
    (o1 : 540 ≤ v4 → q_in32 (v3 + 540))
    (l2 : 540 ≤ v4 → q_At yX12_lay cX12_lay 5 none 1 0 0 (qK (q_rb b) Q) 41 [(2, 188), (2, c), (0, p), (0, (v3 + 540)), (0, 0)] [] (q_sh0, q_rb b, mem))
    (o3 : v4 < 540 → q_in32 (v3 + v4) ∧ (0 ≤ v4 ∧ v4 < 540) ∧ (0 ≤ (v3 + v4) ∧ (v3 + v4) < N) ∧ q_in32 (v4 + 1))
    (l4 : v4 < 540 → q_At yX12_lay cX12_lay 5 none 1 0 0 (qK (q_rb b) Q) 5 [(2, 188), (2, c), (0, p), (0, v3), (0, (v4 + 1))] [] (q_sh0, q_rb b, (q_up mem c (v3 + v4) (mem 196 v4)))) :
    q_At yX12_lay cX12_lay 5 none 1 0 0 (qK (q_rb b) Q) 5 [(2, 188), (2, c), (0, p), (0, v3), (0, v4)] [] (q_sh0, q_rb b, mem) := by
  refine q_iload dX12_lay_5 rfl ?_
  refine qx_sipush dX12_lay_7 rfl rfl ?_
  refine qx_icmp_ge (tgt := 32) dX12_lay_10 (by decide) (fun c1 => ?_) (fun c1 => ?_)
  · skip
    refine qx_iincW (L' := [(2, 188), (2, c), (0, p), (0, (v3 + 540)), (0, v4)]) dX12_lay_32 rfl rfl rfl (o1 c1) rfl ?_
    refine qx_iconst dX12_lay_38 rfl rfl ?_
    refine qx_istore (L' := [(2, 188), (2, c), (0, p), (0, (v3 + 540)), (0, 0)]) dX12_lay_39 rfl rfl rfl ?_
    exact l2 c1
  · skip
    refine q_aload_n dX12_lay_13 rfl rfl ?_
    refine q_iload_n dX12_lay_14 rfl rfl ?_
    refine q_iload dX12_lay_15 rfl ?_
    refine qx_iadd dX12_lay_17 (o3 c1).1 ?_
    refine q_aload_n dX12_lay_18 rfl rfl ?_
    refine q_getR (ci := 12) (k := 8) dX12_lay_19 rfl (by decide) rfl tw1191 (by decide) qs188 qw188_8 (by decide) ?_
    refine q_iload dX12_lay_22 rfl ?_
    refine qx_iald (v := (mem 196 v4)) dX12_lay_24 qs196 (o3 c1).2.1 rfl ?_
    refine q_iast dX12_lay_25 hc ((o3 c1).2.2.1).1 ((o3 c1).2.2.1).2 ?_
    refine qx_iinc (L' := [(2, 188), (2, c), (0, p), (0, v3), (0, (v4 + 1))]) dX12_lay_26 rfl rfl rfl (o3 c1).2.2.2 rfl ?_
    refine q_goto (tgt := 5) dX12_lay_29 (by decide) ?_
    exact l4 c1
theorem bkX12_lay_41 {b : Int} {mem : qm} {Q : Int → qm → Prop}
    {p v3 v4 c : Int}
    {N : Nat}
    (hc : q_sh0[c.toNat]? = some (0, N))
    (o1 : 9 ≤ v4 → q_in32 (v3 + 18))
    (l2 : 9 ≤ v4 → q_At yX12_lay cX12_lay 5 none 1 0 0 (qK (q_rb b) Q) 92 [(2, 188), (2, c), (0, p), (0, (v3 + 18)), (0, 0)] [] (q_sh0, q_rb b, mem))
    (o3 : v4 < 9 → q_in32 (2 * v4) ∧ q_in32 (v3 + (2 * v4)) ∧ (0 ≤ v4 ∧ v4 < 9) ∧ (0 ≤ (v3 + (2 * v4)) ∧ (v3 + (2 * v4)) < N) ∧ q_in32 ((v3 + (2 * v4)) + 1) ∧ (0 ≤ ((v3 + (2 * v4)) + 1) ∧ ((v3 + (2 * v4)) + 1) < N) ∧ q_in32 (v4 + 1))
    (l4 : v4 < 9 → q_At yX12_lay cX12_lay 5 none 1 0 0 (qK (q_rb b) Q) 41 [(2, 188), (2, c), (0, p), (0, v3), (0, (v4 + 1))] [] (q_sh0, q_rb b, (q_up (q_up mem c (v3 + (2 * v4)) (mem 190 v4)) c ((v3 + (2 * v4)) + 1) ((q_up mem c (v3 + (2 * v4)) (mem 190 v4)) 195 v4)))) :
    q_At yX12_lay cX12_lay 5 none 1 0 0 (qK (q_rb b) Q) 41 [(2, 188), (2, c), (0, p), (0, v3), (0, v4)] [] (q_sh0, q_rb b, mem) := by
  refine q_iload dX12_lay_41 rfl ?_
  refine qx_bipush dX12_lay_43 rfl rfl ?_
  refine qx_icmp_ge (tgt := 86) dX12_lay_45 (by decide) (fun c1 => ?_) (fun c1 => ?_)
  · skip
    refine qx_iinc (L' := [(2, 188), (2, c), (0, p), (0, (v3 + 18)), (0, v4)]) dX12_lay_86 rfl rfl rfl (o1 c1) rfl ?_
    refine qx_iconst dX12_lay_89 rfl rfl ?_
    refine qx_istore (L' := [(2, 188), (2, c), (0, p), (0, (v3 + 18)), (0, 0)]) dX12_lay_90 rfl rfl rfl ?_
    exact l2 c1
  · skip
    refine q_aload_n dX12_lay_48 rfl rfl ?_
    refine q_iload_n dX12_lay_49 rfl rfl ?_
    refine qx_iconst dX12_lay_50 rfl rfl ?_
    refine q_iload dX12_lay_51 rfl ?_
    refine qx_imul dX12_lay_53 (o3 c1).1 ?_
    refine qx_iadd dX12_lay_54 (o3 c1).2.1 ?_
    refine q_aload_n dX12_lay_55 rfl rfl ?_
    refine q_getR (ci := 12) (k := 2) dX12_lay_56 rfl (by decide) rfl tw1185 (by decide) qs188 qw188_2 (by decide) ?_
    refine q_iload dX12_lay_59 rfl ?_
    refine qx_iald (v := (mem 190 v4)) dX12_lay_61 qs190 (o3 c1).2.2.1 rfl ?_
    refine q_iast dX12_lay_62 hc ((o3 c1).2.2.2.1).1 ((o3 c1).2.2.2.1).2 ?_
    refine q_aload_n dX12_lay_63 rfl rfl ?_
    refine q_iload_n dX12_lay_64 rfl rfl ?_
    refine qx_iconst dX12_lay_65 rfl rfl ?_
    refine q_iload dX12_lay_66 rfl ?_
    refine qx_imul dX12_lay_68 (o3 c1).1 ?_
    refine qx_iadd dX12_lay_69 (o3 c1).2.1 ?_
    refine qx_iconst dX12_lay_70 rfl rfl ?_
    refine qx_iadd dX12_lay_71 (o3 c1).2.2.2.2.1 ?_
    refine q_aload_n dX12_lay_72 rfl rfl ?_
    refine q_getR (ci := 12) (k := 7) dX12_lay_73 rfl (by decide) rfl tw1190 (by decide) qs188 qw188_7 (by decide) ?_
    refine q_iload dX12_lay_76 rfl ?_
    refine qx_iald (v := ((q_up mem c (v3 + (2 * v4)) (mem 190 v4)) 195 v4)) dX12_lay_78 qs195 (o3 c1).2.2.1 rfl ?_
    refine q_iast dX12_lay_79 hc ((o3 c1).2.2.2.2.2.1).1 ((o3 c1).2.2.2.2.2.1).2 ?_
    refine qx_iinc (L' := [(2, 188), (2, c), (0, p), (0, v3), (0, (v4 + 1))]) dX12_lay_80 rfl rfl rfl (o3 c1).2.2.2.2.2.2 rfl ?_
    refine q_goto (tgt := 41) dX12_lay_83 (by decide) ?_
    exact l4 c1
theorem bkX12_lay_92 {b : Int} {mem : qm} {Q : Int → qm → Prop}
    {p v3 v4 c : Int}
    {N : Nat}
    (hc : q_sh0[c.toNat]? = some (0, N))
    (o1 : 36 ≤ v4 → q_in32 (v3 + 36) ∧ (0 ≤ (v3 + 36) ∧ (v3 + 36) < N) ∧ q_in32 ((v3 + 36) + 1) ∧ (0 ≤ ((v3 + 36) + 1) ∧ ((v3 + 36) + 1) < N) ∧ q_in32 ((v3 + 36) + 2) ∧ (0 ≤ ((v3 + 36) + 2) ∧ ((v3 + 36) + 2) < N))
    (l2 : 36 ≤ v4 → Q 0 (q_up (q_up (q_up mem c (v3 + 36) (mem 188 10)) c ((v3 + 36) + 1) ((q_up mem c (v3 + 36) (mem 188 10)) 188 11)) c ((v3 + 36) + 2) ((q_up (q_up mem c (v3 + 36) (mem 188 10)) c ((v3 + 36) + 1) ((q_up mem c (v3 + 36) (mem 188 10)) 188 11)) 188 12)))
    (o3 : v4 < 36 → q_in32 (v3 + v4) ∧ (0 ≤ v4 ∧ v4 < 36) ∧ (0 ≤ (v3 + v4) ∧ (v3 + v4) < N) ∧ q_in32 (v4 + 1))
    (l4 : v4 < 36 → q_At yX12_lay cX12_lay 5 none 1 0 0 (qK (q_rb b) Q) 92 [(2, 188), (2, c), (0, p), (0, v3), (0, (v4 + 1))] [] (q_sh0, q_rb b, (q_up mem c (v3 + v4) (mem 197 v4)))) :
    q_At yX12_lay cX12_lay 5 none 1 0 0 (qK (q_rb b) Q) 92 [(2, 188), (2, c), (0, p), (0, v3), (0, v4)] [] (q_sh0, q_rb b, mem) := by
  refine q_iload dX12_lay_92 rfl ?_
  refine qx_bipush dX12_lay_94 rfl rfl ?_
  refine qx_icmp_ge (tgt := 118) dX12_lay_96 (by decide) (fun c1 => ?_) (fun c1 => ?_)
  · skip
    refine qx_iinc (L' := [(2, 188), (2, c), (0, p), (0, (v3 + 36)), (0, v4)]) dX12_lay_118 rfl rfl rfl (o1 c1).1 rfl ?_
    refine q_aload_n dX12_lay_121 rfl rfl ?_
    refine q_iload_n dX12_lay_122 rfl rfl ?_
    refine q_aload_n dX12_lay_123 rfl rfl ?_
    refine qx_getI (ci := 12) (k := 10) (v := (mem 188 10)) dX12_lay_124 rfl rfl rfl tw1193 rfl qs188 rfl ?_
    refine q_iast dX12_lay_127 hc ((o1 c1).2.1).1 ((o1 c1).2.1).2 ?_
    refine q_aload_n dX12_lay_128 rfl rfl ?_
    refine q_iload_n dX12_lay_129 rfl rfl ?_
    refine qx_iconst dX12_lay_130 rfl rfl ?_
    refine qx_iadd dX12_lay_131 (o1 c1).2.2.1 ?_
    refine q_aload_n dX12_lay_132 rfl rfl ?_
    refine qx_getI (ci := 12) (k := 11) (v := ((q_up mem c (v3 + 36) (mem 188 10)) 188 11)) dX12_lay_133 rfl rfl rfl tw1194 rfl qs188 rfl ?_
    refine q_iast dX12_lay_136 hc ((o1 c1).2.2.2.1).1 ((o1 c1).2.2.2.1).2 ?_
    refine q_aload_n dX12_lay_137 rfl rfl ?_
    refine q_iload_n dX12_lay_138 rfl rfl ?_
    refine qx_iconst dX12_lay_139 rfl rfl ?_
    refine qx_iadd dX12_lay_140 (o1 c1).2.2.2.2.1 ?_
    refine q_aload_n dX12_lay_141 rfl rfl ?_
    refine qx_getI (ci := 12) (k := 12) (v := ((q_up (q_up mem c (v3 + 36) (mem 188 10)) c ((v3 + 36) + 1) ((q_up mem c (v3 + 36) (mem 188 10)) 188 11)) 188 12)) dX12_lay_142 rfl rfl rfl tw1195 rfl qs188 rfl ?_
    refine q_iast dX12_lay_145 hc ((o1 c1).2.2.2.2.2).1 ((o1 c1).2.2.2.2.2).2 ?_
    exact q_vret dX12_lay_146 (qK_i (l2 c1))
  · skip
    refine q_aload_n dX12_lay_99 rfl rfl ?_
    refine q_iload_n dX12_lay_100 rfl rfl ?_
    refine q_iload dX12_lay_101 rfl ?_
    refine qx_iadd dX12_lay_103 (o3 c1).1 ?_
    refine q_aload_n dX12_lay_104 rfl rfl ?_
    refine q_getR (ci := 12) (k := 9) dX12_lay_105 rfl (by decide) rfl tw1192 (by decide) qs188 qw188_9 (by decide) ?_
    refine q_iload dX12_lay_108 rfl ?_
    refine qx_iald (v := (mem 197 v4)) dX12_lay_110 qs197 (o3 c1).2.1 rfl ?_
    refine q_iast dX12_lay_111 hc ((o3 c1).2.2.1).1 ((o3 c1).2.2.1).2 ?_
    refine qx_iinc (L' := [(2, 188), (2, c), (0, p), (0, v3), (0, (v4 + 1))]) dX12_lay_112 rfl rfl rfl (o3 c1).2.2.2 rfl ?_
    refine q_goto (tgt := 92) dX12_lay_115 (by decide) ?_
    exact l4 c1
theorem dX12_bring_0 : decode cX12_bring 0 = .ok (.iload_n 2, 1) := by decide +kernel
theorem dX12_bring_1 : decode cX12_bring 1 = .ok (.istore_n 3, 1) := by decide +kernel
theorem dX12_bring_2 : decode cX12_bring 2 = .ok (.iconst 0, 1) := by decide +kernel
theorem dX12_bring_3 : decode cX12_bring 3 = .ok (.istore 4, 2) := by decide +kernel
theorem dX12_bring_5 : decode cX12_bring 5 = .ok (.iload 4, 2) := by decide +kernel
theorem dX12_bring_7 : decode cX12_bring 7 = .ok (.sipush 540, 3) := by decide +kernel
theorem dX12_bring_10 : decode cX12_bring 10 = .ok (.if_icmp .ge 22, 3) := by decide +kernel
theorem dX12_bring_13 : decode cX12_bring 13 = .ok (.aload_n 0, 1) := by decide +kernel
theorem dX12_bring_14 : decode cX12_bring 14 = .ok (.getfield 31, 3) := by decide +kernel
theorem dX12_bring_17 : decode cX12_bring 17 = .ok (.iload 4, 2) := by decide +kernel
theorem dX12_bring_19 : decode cX12_bring 19 = .ok (.aload_n 1, 1) := by decide +kernel
theorem dX12_bring_20 : decode cX12_bring 20 = .ok (.iload_n 3, 1) := by decide +kernel
theorem dX12_bring_21 : decode cX12_bring 21 = .ok (.iload 4, 2) := by decide +kernel
theorem dX12_bring_23 : decode cX12_bring 23 = .ok (.iadd, 1) := by decide +kernel
theorem dX12_bring_24 : decode cX12_bring 24 = .ok (.iaload, 1) := by decide +kernel
theorem dX12_bring_25 : decode cX12_bring 25 = .ok (.iastore, 1) := by decide +kernel
theorem dX12_bring_26 : decode cX12_bring 26 = .ok (.iinc 4 1, 3) := by decide +kernel
theorem dX12_bring_29 : decode cX12_bring 29 = .ok (.goto (-24), 3) := by decide +kernel
theorem dX12_bring_32 : decode cX12_bring 32 = .ok (.iinc 3 540, 6) := by decide +kernel
theorem dX12_bring_38 : decode cX12_bring 38 = .ok (.iconst 0, 1) := by decide +kernel
theorem dX12_bring_39 : decode cX12_bring 39 = .ok (.istore 4, 2) := by decide +kernel
theorem dX12_bring_41 : decode cX12_bring 41 = .ok (.iload 4, 2) := by decide +kernel
theorem dX12_bring_43 : decode cX12_bring 43 = .ok (.bipush 9, 2) := by decide +kernel
theorem dX12_bring_45 : decode cX12_bring 45 = .ok (.if_icmp .ge 41, 3) := by decide +kernel
theorem dX12_bring_48 : decode cX12_bring 48 = .ok (.aload_n 0, 1) := by decide +kernel
theorem dX12_bring_49 : decode cX12_bring 49 = .ok (.getfield 13, 3) := by decide +kernel
theorem dX12_bring_52 : decode cX12_bring 52 = .ok (.iload 4, 2) := by decide +kernel
theorem dX12_bring_54 : decode cX12_bring 54 = .ok (.aload_n 1, 1) := by decide +kernel
theorem dX12_bring_55 : decode cX12_bring 55 = .ok (.iload_n 3, 1) := by decide +kernel
theorem dX12_bring_56 : decode cX12_bring 56 = .ok (.iconst 2, 1) := by decide +kernel
theorem dX12_bring_57 : decode cX12_bring 57 = .ok (.iload 4, 2) := by decide +kernel
theorem dX12_bring_59 : decode cX12_bring 59 = .ok (.imul, 1) := by decide +kernel
theorem dX12_bring_60 : decode cX12_bring 60 = .ok (.iadd, 1) := by decide +kernel
theorem dX12_bring_61 : decode cX12_bring 61 = .ok (.iaload, 1) := by decide +kernel
theorem dX12_bring_62 : decode cX12_bring 62 = .ok (.iastore, 1) := by decide +kernel
theorem dX12_bring_63 : decode cX12_bring 63 = .ok (.aload_n 0, 1) := by decide +kernel
theorem dX12_bring_64 : decode cX12_bring 64 = .ok (.getfield 28, 3) := by decide +kernel
theorem dX12_bring_67 : decode cX12_bring 67 = .ok (.iload 4, 2) := by decide +kernel
theorem dX12_bring_69 : decode cX12_bring 69 = .ok (.aload_n 1, 1) := by decide +kernel
theorem dX12_bring_70 : decode cX12_bring 70 = .ok (.iload_n 3, 1) := by decide +kernel
theorem dX12_bring_71 : decode cX12_bring 71 = .ok (.iconst 2, 1) := by decide +kernel
theorem dX12_bring_72 : decode cX12_bring 72 = .ok (.iload 4, 2) := by decide +kernel
theorem dX12_bring_74 : decode cX12_bring 74 = .ok (.imul, 1) := by decide +kernel
theorem dX12_bring_75 : decode cX12_bring 75 = .ok (.iadd, 1) := by decide +kernel
theorem dX12_bring_76 : decode cX12_bring 76 = .ok (.iconst 1, 1) := by decide +kernel
theorem dX12_bring_77 : decode cX12_bring 77 = .ok (.iadd, 1) := by decide +kernel
theorem dX12_bring_78 : decode cX12_bring 78 = .ok (.iaload, 1) := by decide +kernel
theorem dX12_bring_79 : decode cX12_bring 79 = .ok (.iastore, 1) := by decide +kernel
theorem dX12_bring_80 : decode cX12_bring 80 = .ok (.iinc 4 1, 3) := by decide +kernel
theorem dX12_bring_83 : decode cX12_bring 83 = .ok (.goto (-42), 3) := by decide +kernel
theorem dX12_bring_86 : decode cX12_bring 86 = .ok (.iinc 3 18, 3) := by decide +kernel
theorem dX12_bring_89 : decode cX12_bring 89 = .ok (.iconst 0, 1) := by decide +kernel
theorem dX12_bring_90 : decode cX12_bring 90 = .ok (.istore 4, 2) := by decide +kernel
theorem dX12_bring_92 : decode cX12_bring 92 = .ok (.iload 4, 2) := by decide +kernel
theorem dX12_bring_94 : decode cX12_bring 94 = .ok (.bipush 36, 2) := by decide +kernel
theorem dX12_bring_96 : decode cX12_bring 96 = .ok (.if_icmp .ge 22, 3) := by decide +kernel
theorem dX12_bring_99 : decode cX12_bring 99 = .ok (.aload_n 0, 1) := by decide +kernel
theorem dX12_bring_100 : decode cX12_bring 100 = .ok (.getfield 34, 3) := by decide +kernel
theorem dX12_bring_103 : decode cX12_bring 103 = .ok (.iload 4, 2) := by decide +kernel
theorem dX12_bring_105 : decode cX12_bring 105 = .ok (.aload_n 1, 1) := by decide +kernel
theorem dX12_bring_106 : decode cX12_bring 106 = .ok (.iload_n 3, 1) := by decide +kernel
theorem dX12_bring_107 : decode cX12_bring 107 = .ok (.iload 4, 2) := by decide +kernel
theorem dX12_bring_109 : decode cX12_bring 109 = .ok (.iadd, 1) := by decide +kernel
theorem dX12_bring_110 : decode cX12_bring 110 = .ok (.iaload, 1) := by decide +kernel
theorem dX12_bring_111 : decode cX12_bring 111 = .ok (.iastore, 1) := by decide +kernel
theorem dX12_bring_112 : decode cX12_bring 112 = .ok (.iinc 4 1, 3) := by decide +kernel
theorem dX12_bring_115 : decode cX12_bring 115 = .ok (.goto (-23), 3) := by decide +kernel
theorem dX12_bring_118 : decode cX12_bring 118 = .ok (.iinc 3 36, 3) := by decide +kernel
theorem dX12_bring_121 : decode cX12_bring 121 = .ok (.aload_n 0, 1) := by decide +kernel
theorem dX12_bring_122 : decode cX12_bring 122 = .ok (.aload_n 1, 1) := by decide +kernel
theorem dX12_bring_123 : decode cX12_bring 123 = .ok (.iload_n 3, 1) := by decide +kernel
theorem dX12_bring_124 : decode cX12_bring 124 = .ok (.iaload, 1) := by decide +kernel
theorem dX12_bring_125 : decode cX12_bring 125 = .ok (.putfield 216, 3) := by decide +kernel
theorem dX12_bring_128 : decode cX12_bring 128 = .ok (.aload_n 0, 1) := by decide +kernel
theorem dX12_bring_129 : decode cX12_bring 129 = .ok (.aload_n 1, 1) := by decide +kernel
theorem dX12_bring_130 : decode cX12_bring 130 = .ok (.iload_n 3, 1) := by decide +kernel
theorem dX12_bring_131 : decode cX12_bring 131 = .ok (.iconst 1, 1) := by decide +kernel
theorem dX12_bring_132 : decode cX12_bring 132 = .ok (.iadd, 1) := by decide +kernel
theorem dX12_bring_133 : decode cX12_bring 133 = .ok (.iaload, 1) := by decide +kernel
theorem dX12_bring_134 : decode cX12_bring 134 = .ok (.putfield 247, 3) := by decide +kernel
theorem dX12_bring_137 : decode cX12_bring 137 = .ok (.aload_n 0, 1) := by decide +kernel
theorem dX12_bring_138 : decode cX12_bring 138 = .ok (.aload_n 1, 1) := by decide +kernel
theorem dX12_bring_139 : decode cX12_bring 139 = .ok (.iload_n 3, 1) := by decide +kernel
theorem dX12_bring_140 : decode cX12_bring 140 = .ok (.iconst 2, 1) := by decide +kernel
theorem dX12_bring_141 : decode cX12_bring 141 = .ok (.iadd, 1) := by decide +kernel
theorem dX12_bring_142 : decode cX12_bring 142 = .ok (.iaload, 1) := by decide +kernel
theorem dX12_bring_143 : decode cX12_bring 143 = .ok (.putfield 37, 3) := by decide +kernel
theorem dX12_bring_146 : decode cX12_bring 146 = .ok (.return_, 1) := by decide +kernel
theorem bkX12_bring_0 {b : Int} {mem : qm} {Q : Int → qm → Prop}
    {p c : Int}
    {N : Nat}
    (hc : q_sh0[c.toNat]? = some (0, N))
    (l1 : q_At yX12_bring cX12_bring 5 none 1 0 0 (qK (q_rb b) Q) 5 [(2, 188), (2, c), (0, p), (0, p), (0, 0)] [] (q_sh0, q_rb b, mem)) :
    q_At yX12_bring cX12_bring 5 none 1 0 0 (qK (q_rb b) Q) 0 [(2, 188), (2, c), (0, p), (4, 0), (4, 0)] [] (q_sh0, q_rb b, mem) := by
  refine q_iload_n dX12_bring_0 rfl rfl ?_
  refine qx_istore_n (L' := [(2, 188), (2, c), (0, p), (0, p), (4, 0)]) dX12_bring_1 rfl rfl rfl rfl ?_
  refine qx_iconst dX12_bring_2 rfl rfl ?_
  refine qx_istore (L' := [(2, 188), (2, c), (0, p), (0, p), (0, 0)]) dX12_bring_3 rfl rfl rfl ?_
  exact l1
theorem bkX12_bring_5 {b : Int} {mem : qm} {Q : Int → qm → Prop}
    {p v3 v4 c : Int}
    {N : Nat}
    (hc : q_sh0[c.toNat]? = some (0, N))
    (o1 : 540 ≤ v4 → q_in32 (v3 + 540))
    (l2 : 540 ≤ v4 → q_At yX12_bring cX12_bring 5 none 1 0 0 (qK (q_rb b) Q) 41 [(2, 188), (2, c), (0, p), (0, (v3 + 540)), (0, 0)] [] (q_sh0, q_rb b, mem))
    (o3 : v4 < 540 → q_in32 (v3 + v4) ∧ (0 ≤ (v3 + v4) ∧ (v3 + v4) < N) ∧ (0 ≤ v4 ∧ v4 < 540) ∧ q_in32 (v4 + 1))
    (l4 : v4 < 540 → q_At yX12_bring cX12_bring 5 none 1 0 0 (qK (q_rb b) Q) 5 [(2, 188), (2, c), (0, p), (0, v3), (0, (v4 + 1))] [] (q_sh0, q_rb b, (q_up mem 196 v4 (mem c (v3 + v4))))) :
    q_At yX12_bring cX12_bring 5 none 1 0 0 (qK (q_rb b) Q) 5 [(2, 188), (2, c), (0, p), (0, v3), (0, v4)] [] (q_sh0, q_rb b, mem) := by
  refine q_iload dX12_bring_5 rfl ?_
  refine qx_sipush dX12_bring_7 rfl rfl ?_
  refine qx_icmp_ge (tgt := 32) dX12_bring_10 (by decide) (fun c1 => ?_) (fun c1 => ?_)
  · skip
    refine qx_iincW (L' := [(2, 188), (2, c), (0, p), (0, (v3 + 540)), (0, v4)]) dX12_bring_32 rfl rfl rfl (o1 c1) rfl ?_
    refine qx_iconst dX12_bring_38 rfl rfl ?_
    refine qx_istore (L' := [(2, 188), (2, c), (0, p), (0, (v3 + 540)), (0, 0)]) dX12_bring_39 rfl rfl rfl ?_
    exact l2 c1
  · skip
    refine q_aload_n dX12_bring_13 rfl rfl ?_
    refine q_getR (ci := 12) (k := 8) dX12_bring_14 rfl (by decide) rfl tw1191 (by decide) qs188 qw188_8 (by decide) ?_
    refine q_iload dX12_bring_17 rfl ?_
    refine q_aload_n dX12_bring_19 rfl rfl ?_
    refine q_iload_n dX12_bring_20 rfl rfl ?_
    refine q_iload dX12_bring_21 rfl ?_
    refine qx_iadd dX12_bring_23 (o3 c1).1 ?_
    refine qx_iald (v := (mem c (v3 + v4))) dX12_bring_24 hc (o3 c1).2.1 rfl ?_
    refine q_iast dX12_bring_25 qs196 ((o3 c1).2.2.1).1 ((o3 c1).2.2.1).2 ?_
    refine qx_iinc (L' := [(2, 188), (2, c), (0, p), (0, v3), (0, (v4 + 1))]) dX12_bring_26 rfl rfl rfl (o3 c1).2.2.2 rfl ?_
    refine q_goto (tgt := 5) dX12_bring_29 (by decide) ?_
    exact l4 c1
theorem bkX12_bring_41 {b : Int} {mem : qm} {Q : Int → qm → Prop}
    {p v3 v4 c : Int}
    {N : Nat}
    (hc : q_sh0[c.toNat]? = some (0, N))
    (o1 : 9 ≤ v4 → q_in32 (v3 + 18))
    (l2 : 9 ≤ v4 → q_At yX12_bring cX12_bring 5 none 1 0 0 (qK (q_rb b) Q) 92 [(2, 188), (2, c), (0, p), (0, (v3 + 18)), (0, 0)] [] (q_sh0, q_rb b, mem))
    (o3 : v4 < 9 → q_in32 (2 * v4) ∧ q_in32 (v3 + (2 * v4)) ∧ (0 ≤ (v3 + (2 * v4)) ∧ (v3 + (2 * v4)) < N) ∧ (0 ≤ v4 ∧ v4 < 9) ∧ q_in32 ((v3 + (2 * v4)) + 1) ∧ (0 ≤ ((v3 + (2 * v4)) + 1) ∧ ((v3 + (2 * v4)) + 1) < N) ∧ q_in32 (v4 + 1))
    (l4 : v4 < 9 → q_At yX12_bring cX12_bring 5 none 1 0 0 (qK (q_rb b) Q) 41 [(2, 188), (2, c), (0, p), (0, v3), (0, (v4 + 1))] [] (q_sh0, q_rb b, (q_up (q_up mem 190 v4 (mem c (v3 + (2 * v4)))) 195 v4 ((q_up mem 190 v4 (mem c (v3 + (2 * v4)))) c ((v3 + (2 * v4)) + 1))))) :
    q_At yX12_bring cX12_bring 5 none 1 0 0 (qK (q_rb b) Q) 41 [(2, 188), (2, c), (0, p), (0, v3), (0, v4)] [] (q_sh0, q_rb b, mem) := by
  refine q_iload dX12_bring_41 rfl ?_
  refine qx_bipush dX12_bring_43 rfl rfl ?_
  refine qx_icmp_ge (tgt := 86) dX12_bring_45 (by decide) (fun c1 => ?_) (fun c1 => ?_)
  · skip
    refine qx_iinc (L' := [(2, 188), (2, c), (0, p), (0, (v3 + 18)), (0, v4)]) dX12_bring_86 rfl rfl rfl (o1 c1) rfl ?_
    refine qx_iconst dX12_bring_89 rfl rfl ?_
    refine qx_istore (L' := [(2, 188), (2, c), (0, p), (0, (v3 + 18)), (0, 0)]) dX12_bring_90 rfl rfl rfl ?_
    exact l2 c1
  · skip
    refine q_aload_n dX12_bring_48 rfl rfl ?_
    refine q_getR (ci := 12) (k := 2) dX12_bring_49 rfl (by decide) rfl tw1185 (by decide) qs188 qw188_2 (by decide) ?_
    refine q_iload dX12_bring_52 rfl ?_
    refine q_aload_n dX12_bring_54 rfl rfl ?_
    refine q_iload_n dX12_bring_55 rfl rfl ?_
    refine qx_iconst dX12_bring_56 rfl rfl ?_
    refine q_iload dX12_bring_57 rfl ?_
    refine qx_imul dX12_bring_59 (o3 c1).1 ?_
    refine qx_iadd dX12_bring_60 (o3 c1).2.1 ?_
    refine qx_iald (v := (mem c (v3 + (2 * v4)))) dX12_bring_61 hc (o3 c1).2.2.1 rfl ?_
    refine q_iast dX12_bring_62 qs190 ((o3 c1).2.2.2.1).1 ((o3 c1).2.2.2.1).2 ?_
    refine q_aload_n dX12_bring_63 rfl rfl ?_
    refine q_getR (ci := 12) (k := 7) dX12_bring_64 rfl (by decide) rfl tw1190 (by decide) qs188 qw188_7 (by decide) ?_
    refine q_iload dX12_bring_67 rfl ?_
    refine q_aload_n dX12_bring_69 rfl rfl ?_
    refine q_iload_n dX12_bring_70 rfl rfl ?_
    refine qx_iconst dX12_bring_71 rfl rfl ?_
    refine q_iload dX12_bring_72 rfl ?_
    refine qx_imul dX12_bring_74 (o3 c1).1 ?_
    refine qx_iadd dX12_bring_75 (o3 c1).2.1 ?_
    refine qx_iconst dX12_bring_76 rfl rfl ?_
    refine qx_iadd dX12_bring_77 (o3 c1).2.2.2.2.1 ?_
    refine qx_iald (v := ((q_up mem 190 v4 (mem c (v3 + (2 * v4)))) c ((v3 + (2 * v4)) + 1))) dX12_bring_78 hc (o3 c1).2.2.2.2.2.1 rfl ?_
    refine q_iast dX12_bring_79 qs195 ((o3 c1).2.2.2.1).1 ((o3 c1).2.2.2.1).2 ?_
    refine qx_iinc (L' := [(2, 188), (2, c), (0, p), (0, v3), (0, (v4 + 1))]) dX12_bring_80 rfl rfl rfl (o3 c1).2.2.2.2.2.2 rfl ?_
    refine q_goto (tgt := 41) dX12_bring_83 (by decide) ?_
    exact l4 c1
theorem bkX12_bring_92 {b : Int} {mem : qm} {Q : Int → qm → Prop}
    {p v3 v4 c : Int}
    {N : Nat}
    (hc : q_sh0[c.toNat]? = some (0, N))
    (o1 : 36 ≤ v4 → q_in32 (v3 + 36) ∧ (0 ≤ (v3 + 36) ∧ (v3 + 36) < N) ∧ q_in32 ((v3 + 36) + 1) ∧ (0 ≤ ((v3 + 36) + 1) ∧ ((v3 + 36) + 1) < N) ∧ q_in32 ((v3 + 36) + 2) ∧ (0 ≤ ((v3 + 36) + 2) ∧ ((v3 + 36) + 2) < N))
    (l2 : 36 ≤ v4 → Q 0 (q_up (q_up (q_up mem 188 10 (mem c (v3 + 36))) 188 11 ((q_up mem 188 10 (mem c (v3 + 36))) c ((v3 + 36) + 1))) 188 12 ((q_up (q_up mem 188 10 (mem c (v3 + 36))) 188 11 ((q_up mem 188 10 (mem c (v3 + 36))) c ((v3 + 36) + 1))) c ((v3 + 36) + 2))))
    (o3 : v4 < 36 → q_in32 (v3 + v4) ∧ (0 ≤ (v3 + v4) ∧ (v3 + v4) < N) ∧ (0 ≤ v4 ∧ v4 < 36) ∧ q_in32 (v4 + 1))
    (l4 : v4 < 36 → q_At yX12_bring cX12_bring 5 none 1 0 0 (qK (q_rb b) Q) 92 [(2, 188), (2, c), (0, p), (0, v3), (0, (v4 + 1))] [] (q_sh0, q_rb b, (q_up mem 197 v4 (mem c (v3 + v4))))) :
    q_At yX12_bring cX12_bring 5 none 1 0 0 (qK (q_rb b) Q) 92 [(2, 188), (2, c), (0, p), (0, v3), (0, v4)] [] (q_sh0, q_rb b, mem) := by
  refine q_iload dX12_bring_92 rfl ?_
  refine qx_bipush dX12_bring_94 rfl rfl ?_
  refine qx_icmp_ge (tgt := 118) dX12_bring_96 (by decide) (fun c1 => ?_) (fun c1 => ?_)
  · skip
    refine qx_iinc (L' := [(2, 188), (2, c), (0, p), (0, (v3 + 36)), (0, v4)]) dX12_bring_118 rfl rfl rfl (o1 c1).1 rfl ?_
    refine q_aload_n dX12_bring_121 rfl rfl ?_
    refine q_aload_n dX12_bring_122 rfl rfl ?_
    refine q_iload_n dX12_bring_123 rfl rfl ?_
    refine qx_iald (v := (mem c (v3 + 36))) dX12_bring_124 hc (o1 c1).2.1 rfl ?_
    refine q_putI (ci := 12) (k := 10) (kI := 10) (ty := .int) dX12_bring_125 rfl (by decide) rfl tw1193 rfl rfl rfl (fun _ => ⟨rfl, rfl⟩) qs188 ?_
    refine q_aload_n dX12_bring_128 rfl rfl ?_
    refine q_aload_n dX12_bring_129 rfl rfl ?_
    refine q_iload_n dX12_bring_130 rfl rfl ?_
    refine qx_iconst dX12_bring_131 rfl rfl ?_
    refine qx_iadd dX12_bring_132 (o1 c1).2.2.1 ?_
    refine qx_iald (v := ((q_up mem 188 10 (mem c (v3 + 36))) c ((v3 + 36) + 1))) dX12_bring_133 hc (o1 c1).2.2.2.1 rfl ?_
    refine q_putI (ci := 12) (k := 11) (kI := 11) (ty := .int) dX12_bring_134 rfl (by decide) rfl tw1194 rfl rfl rfl (fun _ => ⟨rfl, rfl⟩) qs188 ?_
    refine q_aload_n dX12_bring_137 rfl rfl ?_
    refine q_aload_n dX12_bring_138 rfl rfl ?_
    refine q_iload_n dX12_bring_139 rfl rfl ?_
    refine qx_iconst dX12_bring_140 rfl rfl ?_
    refine qx_iadd dX12_bring_141 (o1 c1).2.2.2.2.1 ?_
    refine qx_iald (v := ((q_up (q_up mem 188 10 (mem c (v3 + 36))) 188 11 ((q_up mem 188 10 (mem c (v3 + 36))) c ((v3 + 36) + 1))) c ((v3 + 36) + 2))) dX12_bring_142 hc (o1 c1).2.2.2.2.2 rfl ?_
    refine q_putI (ci := 12) (k := 12) (kI := 12) (ty := .int) dX12_bring_143 rfl (by decide) rfl tw1195 rfl rfl rfl (fun _ => ⟨rfl, rfl⟩) qs188 ?_
    exact q_vret dX12_bring_146 (qK_i (l2 c1))
  · skip
    refine q_aload_n dX12_bring_99 rfl rfl ?_
    refine q_getR (ci := 12) (k := 9) dX12_bring_100 rfl (by decide) rfl tw1192 (by decide) qs188 qw188_9 (by decide) ?_
    refine q_iload dX12_bring_103 rfl ?_
    refine q_aload_n dX12_bring_105 rfl rfl ?_
    refine q_iload_n dX12_bring_106 rfl rfl ?_
    refine q_iload dX12_bring_107 rfl ?_
    refine qx_iadd dX12_bring_109 (o3 c1).1 ?_
    refine qx_iald (v := (mem c (v3 + v4))) dX12_bring_110 hc (o3 c1).2.1 rfl ?_
    refine q_iast dX12_bring_111 qs197 ((o3 c1).2.2.1).1 ((o3 c1).2.2.1).2 ?_
    refine qx_iinc (L' := [(2, 188), (2, c), (0, p), (0, v3), (0, (v4 + 1))]) dX12_bring_112 rfl rfl rfl (o3 c1).2.2.2 rfl ?_
    refine q_goto (tgt := 92) dX12_bring_115 (by decide) ?_
    exact l4 c1
theorem dX12_remember_0 : decode cX12_remember 0 = .ok (.aload_n 0, 1) := by decide +kernel
theorem dX12_remember_1 : decode cX12_remember 1 = .ok (.getfield 197, 3) := by decide +kernel
theorem dX12_remember_4 : decode cX12_remember 4 = .ok (.bipush 12, 2) := by decide +kernel
theorem dX12_remember_6 : decode cX12_remember 6 = .ok (.if_icmp .ne 44, 3) := by decide +kernel
theorem dX12_remember_9 : decode cX12_remember 9 = .ok (.iconst 0, 1) := by decide +kernel
theorem dX12_remember_10 : decode cX12_remember 10 = .ok (.istore_n 1, 1) := by decide +kernel
theorem dX12_remember_11 : decode cX12_remember 11 = .ok (.iload_n 1, 1) := by decide +kernel
theorem dX12_remember_12 : decode cX12_remember 12 = .ok (.sipush 6567, 3) := by decide +kernel
theorem dX12_remember_15 : decode cX12_remember 15 = .ok (.if_icmp .ge 25, 3) := by decide +kernel
theorem dX12_remember_18 : decode cX12_remember 18 = .ok (.aload_n 0, 1) := by decide +kernel
theorem dX12_remember_19 : decode cX12_remember 19 = .ok (.getfield 63, 3) := by decide +kernel
theorem dX12_remember_22 : decode cX12_remember 22 = .ok (.iload_n 1, 1) := by decide +kernel
theorem dX12_remember_23 : decode cX12_remember 23 = .ok (.aload_n 0, 1) := by decide +kernel
theorem dX12_remember_24 : decode cX12_remember 24 = .ok (.getfield 63, 3) := by decide +kernel
theorem dX12_remember_27 : decode cX12_remember 27 = .ok (.iload_n 1, 1) := by decide +kernel
theorem dX12_remember_28 : decode cX12_remember 28 = .ok (.sipush 597, 3) := by decide +kernel
theorem dX12_remember_31 : decode cX12_remember 31 = .ok (.iadd, 1) := by decide +kernel
theorem dX12_remember_32 : decode cX12_remember 32 = .ok (.iaload, 1) := by decide +kernel
theorem dX12_remember_33 : decode cX12_remember 33 = .ok (.iastore, 1) := by decide +kernel
theorem dX12_remember_34 : decode cX12_remember 34 = .ok (.iinc 1 1, 3) := by decide +kernel
theorem dX12_remember_37 : decode cX12_remember 37 = .ok (.goto (-26), 3) := by decide +kernel
theorem dX12_remember_40 : decode cX12_remember 40 = .ok (.aload_n 0, 1) := by decide +kernel
theorem dX12_remember_41 : decode cX12_remember 41 = .ok (.dup, 1) := by decide +kernel
theorem dX12_remember_42 : decode cX12_remember 42 = .ok (.getfield 197, 3) := by decide +kernel
theorem dX12_remember_45 : decode cX12_remember 45 = .ok (.iconst 1, 1) := by decide +kernel
theorem dX12_remember_46 : decode cX12_remember 46 = .ok (.isub, 1) := by decide +kernel
theorem dX12_remember_47 : decode cX12_remember 47 = .ok (.putfield 197, 3) := by decide +kernel
theorem dX12_remember_50 : decode cX12_remember 50 = .ok (.aload_n 0, 1) := by decide +kernel
theorem dX12_remember_51 : decode cX12_remember 51 = .ok (.aload_n 0, 1) := by decide +kernel
theorem dX12_remember_52 : decode cX12_remember 52 = .ok (.getfield 63, 3) := by decide +kernel
theorem dX12_remember_55 : decode cX12_remember 55 = .ok (.sipush 597, 3) := by decide +kernel
theorem dX12_remember_58 : decode cX12_remember 58 = .ok (.aload_n 0, 1) := by decide +kernel
theorem dX12_remember_59 : decode cX12_remember 59 = .ok (.getfield 197, 3) := by decide +kernel
theorem dX12_remember_62 : decode cX12_remember 62 = .ok (.imul, 1) := by decide +kernel
theorem dX12_remember_63 : decode cX12_remember 63 = .ok (.invokevirtual 250, 3) := by decide +kernel
theorem dX12_remember_66 : decode cX12_remember 66 = .ok (.aload_n 0, 1) := by decide +kernel
theorem dX12_remember_67 : decode cX12_remember 67 = .ok (.dup, 1) := by decide +kernel
theorem dX12_remember_68 : decode cX12_remember 68 = .ok (.getfield 197, 3) := by decide +kernel
theorem dX12_remember_71 : decode cX12_remember 71 = .ok (.iconst 1, 1) := by decide +kernel
theorem dX12_remember_72 : decode cX12_remember 72 = .ok (.iadd, 1) := by decide +kernel
theorem dX12_remember_73 : decode cX12_remember 73 = .ok (.putfield 197, 3) := by decide +kernel
theorem dX12_remember_76 : decode cX12_remember 76 = .ok (.return_, 1) := by decide +kernel
theorem bkX12_remember_0 {b : Int} {mem : qm} {Q : Int → qm → Prop}
    (o1 : (mem 188 30) ≠ 12 → q_in32 (597 * (mem 188 30)))
    {P2 : Int → qm → Prop}
    (l2 : (mem 188 30) ≠ 12 → q_Ev yX12_lay cX12_lay 5 none 1 0 0 [(2, 188), (2, 204), (0, (597 * (mem 188 30)))] (q_sh0, q_rb b, mem) (qK (q_rb b) (P2)))
    (o3 : (mem 188 30) ≠ 12 → ∀ (r2 : Int), ∀ (m2 : qm), P2 r2 m2 → q_in32 r2 → q_in32 ((m2 188 30) + 1))
    (l4 : (mem 188 30) ≠ 12 → ∀ (r2 : Int), ∀ (m2 : qm), P2 r2 m2 → q_in32 r2 → Q 0 (q_up m2 188 30 ((m2 188 30) + 1)))
    (l5 : (mem 188 30) = 12 → q_At yX12_remember cX12_remember 2 none 2 0 0 (qK (q_rb b) Q) 11 [(2, 188), (0, 0)] [] (q_sh0, q_rb b, mem)) :
    q_At yX12_remember cX12_remember 2 none 2 0 0 (qK (q_rb b) Q) 0 [(2, 188), (4, 0)] [] (q_sh0, q_rb b, mem) := by
  refine q_aload_n dX12_remember_0 rfl rfl ?_
  refine qx_getI (ci := 12) (k := 30) (v := (mem 188 30)) dX12_remember_1 rfl rfl rfl tw1213 rfl qs188 rfl ?_
  refine qx_bipush dX12_remember_4 rfl rfl ?_
  refine qx_icmp_ne (tgt := 50) dX12_remember_6 (by decide) (fun c1 => ?_) (fun c1 => ?_)
  · skip
    refine q_aload_n dX12_remember_50 rfl rfl ?_
    refine q_aload_n dX12_remember_51 rfl rfl ?_
    refine q_getR (ci := 12) (k := 29) dX12_remember_52 rfl (by decide) rfl tw1212 (by decide) qs188 qw188_29 (by decide) ?_
    refine qx_sipush dX12_remember_55 rfl rfl ?_
    refine q_aload_n dX12_remember_58 rfl rfl ?_
    refine qx_getI (ci := 12) (k := 30) (v := (mem 188 30)) dX12_remember_59 rfl rfl rfl tw1213 rfl qs188 rfl ?_
    refine qx_imul dX12_remember_62 (o1 c1) ?_
    refine qx_invV (ci := 12) [(2, 204), (0, (597 * (mem 188 30)))] [(0, (597 * (mem 188 30))), (2, 204), (2, 188)] rfl qM_X12_lay dX12_remember_63 tw1470 rfl qs188 rfl rfl rfl rfl (l2 c1) (fun r2 m2 p2 q2 => ?_)
    refine q_aload_n dX12_remember_66 rfl rfl ?_
    refine q_dup dX12_remember_67 (fun h => by cases h) ?_
    refine qx_getI (ci := 12) (k := 30) (v := (m2 188 30)) dX12_remember_68 rfl rfl rfl tw1213 rfl qs188 rfl ?_
    refine qx_iconst dX12_remember_71 rfl rfl ?_
    refine qx_iadd dX12_remember_72 (o3 c1 r2 m2 p2 q2) ?_
    refine q_putI (ci := 12) (k := 30) (kI := 30) (ty := .int) dX12_remember_73 rfl (by decide) rfl tw1213 rfl rfl rfl (fun _ => ⟨rfl, rfl⟩) qs188 ?_
    exact q_vret dX12_remember_76 (qK_i (l4 c1 r2 m2 p2 q2))
  · skip
    refine qx_iconst dX12_remember_9 rfl rfl ?_
    refine qx_istore_n (L' := [(2, 188), (0, 0)]) dX12_remember_10 rfl rfl rfl rfl ?_
    exact l5 c1
theorem bkX12_remember_11 {b : Int} {mem : qm} {Q : Int → qm → Prop}
    {v1 : Int}
    (o1 : 6567 ≤ v1 → q_in32 ((mem 188 30) - 1) ∧ q_in32 (597 * ((mem 188 30) - 1)))
    {P2 : Int → qm → Prop}
    (l2 : 6567 ≤ v1 → q_Ev yX12_lay cX12_lay 5 none 1 0 0 [(2, 188), (2, 204), (0, (597 * ((mem 188 30) - 1)))] (q_sh0, q_rb b, (q_up mem 188 30 ((mem 188 30) - 1))) (qK (q_rb b) (P2)))
    (o3 : 6567 ≤ v1 → ∀ (r2 : Int), ∀ (m2 : qm), P2 r2 m2 → q_in32 r2 → q_in32 ((m2 188 30) + 1))
    (l4 : 6567 ≤ v1 → ∀ (r2 : Int), ∀ (m2 : qm), P2 r2 m2 → q_in32 r2 → Q 0 (q_up m2 188 30 ((m2 188 30) + 1)))
    (o5 : v1 < 6567 → q_in32 (v1 + 597) ∧ (0 ≤ (v1 + 597) ∧ (v1 + 597) < 7164) ∧ (0 ≤ v1 ∧ v1 < 7164) ∧ q_in32 (v1 + 1))
    (l6 : v1 < 6567 → q_At yX12_remember cX12_remember 2 none 2 0 0 (qK (q_rb b) Q) 11 [(2, 188), (0, (v1 + 1))] [] (q_sh0, q_rb b, (q_up mem 204 v1 (mem 204 (v1 + 597))))) :
    q_At yX12_remember cX12_remember 2 none 2 0 0 (qK (q_rb b) Q) 11 [(2, 188), (0, v1)] [] (q_sh0, q_rb b, mem) := by
  refine q_iload_n dX12_remember_11 rfl rfl ?_
  refine qx_sipush dX12_remember_12 rfl rfl ?_
  refine qx_icmp_ge (tgt := 40) dX12_remember_15 (by decide) (fun c1 => ?_) (fun c1 => ?_)
  · skip
    refine q_aload_n dX12_remember_40 rfl rfl ?_
    refine q_dup dX12_remember_41 (fun h => by cases h) ?_
    refine qx_getI (ci := 12) (k := 30) (v := (mem 188 30)) dX12_remember_42 rfl rfl rfl tw1213 rfl qs188 rfl ?_
    refine qx_iconst dX12_remember_45 rfl rfl ?_
    refine qx_isub dX12_remember_46 (o1 c1).1 ?_
    refine q_putI (ci := 12) (k := 30) (kI := 30) (ty := .int) dX12_remember_47 rfl (by decide) rfl tw1213 rfl rfl rfl (fun _ => ⟨rfl, rfl⟩) qs188 ?_
    refine q_aload_n dX12_remember_50 rfl rfl ?_
    refine q_aload_n dX12_remember_51 rfl rfl ?_
    refine q_getR (ci := 12) (k := 29) dX12_remember_52 rfl (by decide) rfl tw1212 (by decide) qs188 qw188_29 (by decide) ?_
    refine qx_sipush dX12_remember_55 rfl rfl ?_
    refine q_aload_n dX12_remember_58 rfl rfl ?_
    refine qx_getI (ci := 12) (k := 30) (v := ((mem 188 30) - 1)) dX12_remember_59 rfl rfl rfl tw1213 rfl qs188 q_up_s ?_
    refine qx_imul dX12_remember_62 (o1 c1).2 ?_
    refine qx_invV (ci := 12) [(2, 204), (0, (597 * ((mem 188 30) - 1)))] [(0, (597 * ((mem 188 30) - 1))), (2, 204), (2, 188)] rfl qM_X12_lay dX12_remember_63 tw1470 rfl qs188 rfl rfl rfl rfl (l2 c1) (fun r2 m2 p2 q2 => ?_)
    refine q_aload_n dX12_remember_66 rfl rfl ?_
    refine q_dup dX12_remember_67 (fun h => by cases h) ?_
    refine qx_getI (ci := 12) (k := 30) (v := (m2 188 30)) dX12_remember_68 rfl rfl rfl tw1213 rfl qs188 rfl ?_
    refine qx_iconst dX12_remember_71 rfl rfl ?_
    refine qx_iadd dX12_remember_72 (o3 c1 r2 m2 p2 q2) ?_
    refine q_putI (ci := 12) (k := 30) (kI := 30) (ty := .int) dX12_remember_73 rfl (by decide) rfl tw1213 rfl rfl rfl (fun _ => ⟨rfl, rfl⟩) qs188 ?_
    exact q_vret dX12_remember_76 (qK_i (l4 c1 r2 m2 p2 q2))
  · skip
    refine q_aload_n dX12_remember_18 rfl rfl ?_
    refine q_getR (ci := 12) (k := 29) dX12_remember_19 rfl (by decide) rfl tw1212 (by decide) qs188 qw188_29 (by decide) ?_
    refine q_iload_n dX12_remember_22 rfl rfl ?_
    refine q_aload_n dX12_remember_23 rfl rfl ?_
    refine q_getR (ci := 12) (k := 29) dX12_remember_24 rfl (by decide) rfl tw1212 (by decide) qs188 qw188_29 (by decide) ?_
    refine q_iload_n dX12_remember_27 rfl rfl ?_
    refine qx_sipush dX12_remember_28 rfl rfl ?_
    refine qx_iadd dX12_remember_31 (o5 c1).1 ?_
    refine qx_iald (v := (mem 204 (v1 + 597))) dX12_remember_32 qs204 (o5 c1).2.1 rfl ?_
    refine q_iast dX12_remember_33 qs204 ((o5 c1).2.2.1).1 ((o5 c1).2.2.1).2 ?_
    refine qx_iinc (L' := [(2, 188), (0, (v1 + 1))]) dX12_remember_34 rfl rfl rfl (o5 c1).2.2.2 rfl ?_
    refine q_goto (tgt := 11) dX12_remember_37 (by decide) ?_
    exact l6 c1
theorem dX12_letGo_0 : decode cX12_letGo 0 = .ok (.iload_n 2, 1) := by decide +kernel
theorem dX12_letGo_1 : decode cX12_letGo 1 = .ok (.istore_n 3, 1) := by decide +kernel
theorem dX12_letGo_2 : decode cX12_letGo 2 = .ok (.iload_n 3, 1) := by decide +kernel
theorem dX12_letGo_3 : decode cX12_letGo 3 = .ok (.aload_n 0, 1) := by decide +kernel
theorem dX12_letGo_4 : decode cX12_letGo 4 = .ok (.getfield 13, 3) := by decide +kernel
theorem dX12_letGo_7 : decode cX12_letGo 7 = .ok (.iload_n 1, 1) := by decide +kernel
theorem dX12_letGo_8 : decode cX12_letGo 8 = .ok (.iaload, 1) := by decide +kernel
theorem dX12_letGo_9 : decode cX12_letGo 9 = .ok (.if_icmp .ge 33, 3) := by decide +kernel
theorem dX12_letGo_12 : decode cX12_letGo 12 = .ok (.aload_n 0, 1) := by decide +kernel
theorem dX12_letGo_13 : decode cX12_letGo 13 = .ok (.getfield 31, 3) := by decide +kernel
theorem dX12_letGo_16 : decode cX12_letGo 16 = .ok (.bipush 60, 2) := by decide +kernel
theorem dX12_letGo_18 : decode cX12_letGo 18 = .ok (.iload_n 1, 1) := by decide +kernel
theorem dX12_letGo_19 : decode cX12_letGo 19 = .ok (.imul, 1) := by decide +kernel
theorem dX12_letGo_20 : decode cX12_letGo 20 = .ok (.iload_n 3, 1) := by decide +kernel
theorem dX12_letGo_21 : decode cX12_letGo 21 = .ok (.iadd, 1) := by decide +kernel
theorem dX12_letGo_22 : decode cX12_letGo 22 = .ok (.iload_n 2, 1) := by decide +kernel
theorem dX12_letGo_23 : decode cX12_letGo 23 = .ok (.isub, 1) := by decide +kernel
theorem dX12_letGo_24 : decode cX12_letGo 24 = .ok (.aload_n 0, 1) := by decide +kernel
theorem dX12_letGo_25 : decode cX12_letGo 25 = .ok (.getfield 31, 3) := by decide +kernel
theorem dX12_letGo_28 : decode cX12_letGo 28 = .ok (.bipush 60, 2) := by decide +kernel
theorem dX12_letGo_30 : decode cX12_letGo 30 = .ok (.iload_n 1, 1) := by decide +kernel
theorem dX12_letGo_31 : decode cX12_letGo 31 = .ok (.imul, 1) := by decide +kernel
theorem dX12_letGo_32 : decode cX12_letGo 32 = .ok (.iload_n 3, 1) := by decide +kernel
theorem dX12_letGo_33 : decode cX12_letGo 33 = .ok (.iadd, 1) := by decide +kernel
theorem dX12_letGo_34 : decode cX12_letGo 34 = .ok (.iaload, 1) := by decide +kernel
theorem dX12_letGo_35 : decode cX12_letGo 35 = .ok (.iastore, 1) := by decide +kernel
theorem dX12_letGo_36 : decode cX12_letGo 36 = .ok (.iinc 3 1, 3) := by decide +kernel
theorem dX12_letGo_39 : decode cX12_letGo 39 = .ok (.goto (-37), 3) := by decide +kernel
theorem dX12_letGo_42 : decode cX12_letGo 42 = .ok (.aload_n 0, 1) := by decide +kernel
theorem dX12_letGo_43 : decode cX12_letGo 43 = .ok (.getfield 13, 3) := by decide +kernel
theorem dX12_letGo_46 : decode cX12_letGo 46 = .ok (.iload_n 1, 1) := by decide +kernel
theorem dX12_letGo_47 : decode cX12_letGo 47 = .ok (.dup2, 1) := by decide +kernel
theorem dX12_letGo_48 : decode cX12_letGo 48 = .ok (.iaload, 1) := by decide +kernel
theorem dX12_letGo_49 : decode cX12_letGo 49 = .ok (.iload_n 2, 1) := by decide +kernel
theorem dX12_letGo_50 : decode cX12_letGo 50 = .ok (.isub, 1) := by decide +kernel
theorem dX12_letGo_51 : decode cX12_letGo 51 = .ok (.iastore, 1) := by decide +kernel
theorem dX12_letGo_52 : decode cX12_letGo 52 = .ok (.return_, 1) := by decide +kernel
theorem bkX12_letGo_0 {b : Int} {mem : qm} {Q : Int → qm → Prop}
    {j v : Int}
    (l1 : q_At yX12_letGo cX12_letGo 4 none 1 0 0 (qK (q_rb b) Q) 2 [(2, 188), (0, j), (0, v), (0, v)] [] (q_sh0, q_rb b, mem)) :
    q_At yX12_letGo cX12_letGo 4 none 1 0 0 (qK (q_rb b) Q) 0 [(2, 188), (0, j), (0, v), (4, 0)] [] (q_sh0, q_rb b, mem) := by
  refine q_iload_n dX12_letGo_0 rfl rfl ?_
  refine qx_istore_n (L' := [(2, 188), (0, j), (0, v), (0, v)]) dX12_letGo_1 rfl rfl rfl rfl ?_
  exact l1
theorem bkX12_letGo_2 {b : Int} {mem : qm} {Q : Int → qm → Prop}
    {j v v3 : Int}
    (o1 : (0 ≤ j ∧ j < 9))
    (o2 : (mem 190 j) ≤ v3 → q_in32 ((mem 190 j) - v))
    (l3 : (mem 190 j) ≤ v3 → Q 0 (q_up mem 190 j ((mem 190 j) - v)))
    (o4 : v3 < (mem 190 j) → q_in32 (60 * j) ∧ q_in32 ((60 * j) + v3) ∧ q_in32 (((60 * j) + v3) - v) ∧ (0 ≤ ((60 * j) + v3) ∧ ((60 * j) + v3) < 540) ∧ (0 ≤ (((60 * j) + v3) - v) ∧ (((60 * j) + v3) - v) < 540) ∧ q_in32 (v3 + 1))
    (l5 : v3 < (mem 190 j) → q_At yX12_letGo cX12_letGo 4 none 1 0 0 (qK (q_rb b) Q) 2 [(2, 188), (0, j), (0, v), (0, (v3 + 1))] [] (q_sh0, q_rb b, (q_up mem 196 (((60 * j) + v3) - v) (mem 196 ((60 * j) + v3))))) :
    q_At yX12_letGo cX12_letGo 4 none 1 0 0 (qK (q_rb b) Q) 2 [(2, 188), (0, j), (0, v), (0, v3)] [] (q_sh0, q_rb b, mem) := by
  refine q_iload_n dX12_letGo_2 rfl rfl ?_
  refine q_aload_n dX12_letGo_3 rfl rfl ?_
  refine q_getR (ci := 12) (k := 2) dX12_letGo_4 rfl (by decide) rfl tw1185 (by decide) qs188 qw188_2 (by decide) ?_
  refine q_iload_n dX12_letGo_7 rfl rfl ?_
  refine qx_iald (v := (mem 190 j)) dX12_letGo_8 qs190 (o1) rfl ?_
  refine qx_icmp_ge (tgt := 42) dX12_letGo_9 (by decide) (fun c1 => ?_) (fun c1 => ?_)
  · skip
    refine q_aload_n dX12_letGo_42 rfl rfl ?_
    refine q_getR (ci := 12) (k := 2) dX12_letGo_43 rfl (by decide) rfl tw1185 (by decide) qs188 qw188_2 (by decide) ?_
    refine q_iload_n dX12_letGo_46 rfl rfl ?_
    refine q_dup2 dX12_letGo_47 (fun h => by cases h) (fun h => by cases h) ?_
    refine qx_iald (v := (mem 190 j)) dX12_letGo_48 qs190 (o1) rfl ?_
    refine q_iload_n dX12_letGo_49 rfl rfl ?_
    refine qx_isub dX12_letGo_50 (o2 c1) ?_
    refine q_iast dX12_letGo_51 qs190 ((o1)).1 ((o1)).2 ?_
    exact q_vret dX12_letGo_52 (qK_i (l3 c1))
  · skip
    refine q_aload_n dX12_letGo_12 rfl rfl ?_
    refine q_getR (ci := 12) (k := 8) dX12_letGo_13 rfl (by decide) rfl tw1191 (by decide) qs188 qw188_8 (by decide) ?_
    refine qx_bipush dX12_letGo_16 rfl rfl ?_
    refine q_iload_n dX12_letGo_18 rfl rfl ?_
    refine qx_imul dX12_letGo_19 (o4 c1).1 ?_
    refine q_iload_n dX12_letGo_20 rfl rfl ?_
    refine qx_iadd dX12_letGo_21 (o4 c1).2.1 ?_
    refine q_iload_n dX12_letGo_22 rfl rfl ?_
    refine qx_isub dX12_letGo_23 (o4 c1).2.2.1 ?_
    refine q_aload_n dX12_letGo_24 rfl rfl ?_
    refine q_getR (ci := 12) (k := 8) dX12_letGo_25 rfl (by decide) rfl tw1191 (by decide) qs188 qw188_8 (by decide) ?_
    refine qx_bipush dX12_letGo_28 rfl rfl ?_
    refine q_iload_n dX12_letGo_30 rfl rfl ?_
    refine qx_imul dX12_letGo_31 (o4 c1).1 ?_
    refine q_iload_n dX12_letGo_32 rfl rfl ?_
    refine qx_iadd dX12_letGo_33 (o4 c1).2.1 ?_
    refine qx_iald (v := (mem 196 ((60 * j) + v3))) dX12_letGo_34 qs196 (o4 c1).2.2.2.1 rfl ?_
    refine q_iast dX12_letGo_35 qs196 ((o4 c1).2.2.2.2.1).1 ((o4 c1).2.2.2.2.1).2 ?_
    refine qx_iinc (L' := [(2, 188), (0, j), (0, v), (0, (v3 + 1))]) dX12_letGo_36 rfl rfl rfl (o4 c1).2.2.2.2.2 rfl ?_
    refine q_goto (tgt := 2) dX12_letGo_39 (by decide) ?_
    exact l5 c1
theorem dX12_move_0 : decode cX12_move 0 = .ok (.iconst 0, 1) := by decide +kernel
theorem dX12_move_1 : decode cX12_move 1 = .ok (.istore 4, 2) := by decide +kernel
theorem dX12_move_3 : decode cX12_move 3 = .ok (.iload 4, 2) := by decide +kernel
theorem dX12_move_5 : decode cX12_move 5 = .ok (.iload_n 3, 1) := by decide +kernel
theorem dX12_move_6 : decode cX12_move 6 = .ok (.if_icmp .ge 40, 3) := by decide +kernel
theorem dX12_move_9 : decode cX12_move 9 = .ok (.aload_n 0, 1) := by decide +kernel
theorem dX12_move_10 : decode cX12_move 10 = .ok (.getfield 31, 3) := by decide +kernel
theorem dX12_move_13 : decode cX12_move 13 = .ok (.bipush 60, 2) := by decide +kernel
theorem dX12_move_15 : decode cX12_move 15 = .ok (.iload_n 2, 1) := by decide +kernel
theorem dX12_move_16 : decode cX12_move 16 = .ok (.imul, 1) := by decide +kernel
theorem dX12_move_17 : decode cX12_move 17 = .ok (.aload_n 0, 1) := by decide +kernel
theorem dX12_move_18 : decode cX12_move 18 = .ok (.getfield 13, 3) := by decide +kernel
theorem dX12_move_21 : decode cX12_move 21 = .ok (.iload_n 2, 1) := by decide +kernel
theorem dX12_move_22 : decode cX12_move 22 = .ok (.iaload, 1) := by decide +kernel
theorem dX12_move_23 : decode cX12_move 23 = .ok (.iadd, 1) := by decide +kernel
theorem dX12_move_24 : decode cX12_move 24 = .ok (.iload 4, 2) := by decide +kernel
theorem dX12_move_26 : decode cX12_move 26 = .ok (.iadd, 1) := by decide +kernel
theorem dX12_move_27 : decode cX12_move 27 = .ok (.aload_n 0, 1) := by decide +kernel
theorem dX12_move_28 : decode cX12_move 28 = .ok (.getfield 31, 3) := by decide +kernel
theorem dX12_move_31 : decode cX12_move 31 = .ok (.bipush 60, 2) := by decide +kernel
theorem dX12_move_33 : decode cX12_move 33 = .ok (.iload_n 1, 1) := by decide +kernel
theorem dX12_move_34 : decode cX12_move 34 = .ok (.imul, 1) := by decide +kernel
theorem dX12_move_35 : decode cX12_move 35 = .ok (.iload 4, 2) := by decide +kernel
theorem dX12_move_37 : decode cX12_move 37 = .ok (.iadd, 1) := by decide +kernel
theorem dX12_move_38 : decode cX12_move 38 = .ok (.iaload, 1) := by decide +kernel
theorem dX12_move_39 : decode cX12_move 39 = .ok (.iastore, 1) := by decide +kernel
theorem dX12_move_40 : decode cX12_move 40 = .ok (.iinc 4 1, 3) := by decide +kernel
theorem dX12_move_43 : decode cX12_move 43 = .ok (.goto (-40), 3) := by decide +kernel
theorem dX12_move_46 : decode cX12_move 46 = .ok (.aload_n 0, 1) := by decide +kernel
theorem dX12_move_47 : decode cX12_move 47 = .ok (.getfield 13, 3) := by decide +kernel
theorem dX12_move_50 : decode cX12_move 50 = .ok (.iload_n 2, 1) := by decide +kernel
theorem dX12_move_51 : decode cX12_move 51 = .ok (.dup2, 1) := by decide +kernel
theorem dX12_move_52 : decode cX12_move 52 = .ok (.iaload, 1) := by decide +kernel
theorem dX12_move_53 : decode cX12_move 53 = .ok (.iload_n 3, 1) := by decide +kernel
theorem dX12_move_54 : decode cX12_move 54 = .ok (.iadd, 1) := by decide +kernel
theorem dX12_move_55 : decode cX12_move 55 = .ok (.iastore, 1) := by decide +kernel
theorem dX12_move_56 : decode cX12_move 56 = .ok (.aload_n 0, 1) := by decide +kernel
theorem dX12_move_57 : decode cX12_move 57 = .ok (.iload_n 1, 1) := by decide +kernel
theorem dX12_move_58 : decode cX12_move 58 = .ok (.iload_n 3, 1) := by decide +kernel
theorem dX12_move_59 : decode cX12_move 59 = .ok (.invokevirtual 243, 3) := by decide +kernel
theorem dX12_move_62 : decode cX12_move 62 = .ok (.return_, 1) := by decide +kernel
theorem bkX12_move_0 {b : Int} {mem : qm} {Q : Int → qm → Prop}
    {x y w : Int}
    (l1 : q_At yX12_move cX12_move 5 none 2 0 0 (qK (q_rb b) Q) 3 [(2, 188), (0, x), (0, y), (0, w), (0, 0)] [] (q_sh0, q_rb b, mem)) :
    q_At yX12_move cX12_move 5 none 2 0 0 (qK (q_rb b) Q) 0 [(2, 188), (0, x), (0, y), (0, w), (4, 0)] [] (q_sh0, q_rb b, mem) := by
  refine qx_iconst dX12_move_0 rfl rfl ?_
  refine qx_istore (L' := [(2, 188), (0, x), (0, y), (0, w), (0, 0)]) dX12_move_1 rfl rfl rfl ?_
  exact l1
theorem bkX12_move_3 {b : Int} {mem : qm} {Q : Int → qm → Prop}
    {x y w v4 : Int}
    (o1 : w ≤ v4 → (0 ≤ y ∧ y < 9) ∧ q_in32 ((mem 190 y) + w))
    {P2 : Int → qm → Prop}
    (l2 : w ≤ v4 → q_Ev yX12_letGo cX12_letGo 4 none 1 0 0 [(2, 188), (0, x), (0, w)] (q_sh0, q_rb b, (q_up mem 190 y ((mem 190 y) + w))) (qK (q_rb b) (P2)))
    (l3 : w ≤ v4 → ∀ (r2 : Int), ∀ (m2 : qm), P2 r2 m2 → q_in32 r2 → Q 0 m2)
    (o4 : v4 < w → q_in32 (60 * y) ∧ (0 ≤ y ∧ y < 9) ∧ q_in32 ((60 * y) + (mem 190 y)) ∧ q_in32 (((60 * y) + (mem 190 y)) + v4) ∧ q_in32 (60 * x) ∧ q_in32 ((60 * x) + v4) ∧ (0 ≤ ((60 * x) + v4) ∧ ((60 * x) + v4) < 540) ∧ (0 ≤ (((60 * y) + (mem 190 y)) + v4) ∧ (((60 * y) + (mem 190 y)) + v4) < 540) ∧ q_in32 (v4 + 1))
    (l5 : v4 < w → q_At yX12_move cX12_move 5 none 2 0 0 (qK (q_rb b) Q) 3 [(2, 188), (0, x), (0, y), (0, w), (0, (v4 + 1))] [] (q_sh0, q_rb b, (q_up mem 196 (((60 * y) + (mem 190 y)) + v4) (mem 196 ((60 * x) + v4))))) :
    q_At yX12_move cX12_move 5 none 2 0 0 (qK (q_rb b) Q) 3 [(2, 188), (0, x), (0, y), (0, w), (0, v4)] [] (q_sh0, q_rb b, mem) := by
  refine q_iload dX12_move_3 rfl ?_
  refine q_iload_n dX12_move_5 rfl rfl ?_
  refine qx_icmp_ge (tgt := 46) dX12_move_6 (by decide) (fun c1 => ?_) (fun c1 => ?_)
  · skip
    refine q_aload_n dX12_move_46 rfl rfl ?_
    refine q_getR (ci := 12) (k := 2) dX12_move_47 rfl (by decide) rfl tw1185 (by decide) qs188 qw188_2 (by decide) ?_
    refine q_iload_n dX12_move_50 rfl rfl ?_
    refine q_dup2 dX12_move_51 (fun h => by cases h) (fun h => by cases h) ?_
    refine qx_iald (v := (mem 190 y)) dX12_move_52 qs190 (o1 c1).1 rfl ?_
    refine q_iload_n dX12_move_53 rfl rfl ?_
    refine qx_iadd dX12_move_54 (o1 c1).2 ?_
    refine q_iast dX12_move_55 qs190 ((o1 c1).1).1 ((o1 c1).1).2 ?_
    refine q_aload_n dX12_move_56 rfl rfl ?_
    refine q_iload_n dX12_move_57 rfl rfl ?_
    refine q_iload_n dX12_move_58 rfl rfl ?_
    refine qx_invV (ci := 12) [(0, x), (0, w)] [(0, w), (0, x), (2, 188)] rfl qM_X12_letGo dX12_move_59 tw1490 rfl qs188 rfl rfl rfl rfl (l2 c1) (fun r2 m2 p2 q2 => ?_)
    exact q_vret dX12_move_62 (qK_i (l3 c1 r2 m2 p2 q2))
  · skip
    refine q_aload_n dX12_move_9 rfl rfl ?_
    refine q_getR (ci := 12) (k := 8) dX12_move_10 rfl (by decide) rfl tw1191 (by decide) qs188 qw188_8 (by decide) ?_
    refine qx_bipush dX12_move_13 rfl rfl ?_
    refine q_iload_n dX12_move_15 rfl rfl ?_
    refine qx_imul dX12_move_16 (o4 c1).1 ?_
    refine q_aload_n dX12_move_17 rfl rfl ?_
    refine q_getR (ci := 12) (k := 2) dX12_move_18 rfl (by decide) rfl tw1185 (by decide) qs188 qw188_2 (by decide) ?_
    refine q_iload_n dX12_move_21 rfl rfl ?_
    refine qx_iald (v := (mem 190 y)) dX12_move_22 qs190 (o4 c1).2.1 rfl ?_
    refine qx_iadd dX12_move_23 (o4 c1).2.2.1 ?_
    refine q_iload dX12_move_24 rfl ?_
    refine qx_iadd dX12_move_26 (o4 c1).2.2.2.1 ?_
    refine q_aload_n dX12_move_27 rfl rfl ?_
    refine q_getR (ci := 12) (k := 8) dX12_move_28 rfl (by decide) rfl tw1191 (by decide) qs188 qw188_8 (by decide) ?_
    refine qx_bipush dX12_move_31 rfl rfl ?_
    refine q_iload_n dX12_move_33 rfl rfl ?_
    refine qx_imul dX12_move_34 (o4 c1).2.2.2.2.1 ?_
    refine q_iload dX12_move_35 rfl ?_
    refine qx_iadd dX12_move_37 (o4 c1).2.2.2.2.2.1 ?_
    refine qx_iald (v := (mem 196 ((60 * x) + v4))) dX12_move_38 qs196 (o4 c1).2.2.2.2.2.2.1 rfl ?_
    refine q_iast dX12_move_39 qs196 ((o4 c1).2.2.2.2.2.2.2.1).1 ((o4 c1).2.2.2.2.2.2.2.1).2 ?_
    refine qx_iinc (L' := [(2, 188), (0, x), (0, y), (0, w), (0, (v4 + 1))]) dX12_move_40 rfl rfl rfl (o4 c1).2.2.2.2.2.2.2.2 rfl ?_
    refine q_goto (tgt := 3) dX12_move_43 (by decide) ?_
    exact l5 c1
theorem dX12_goBell_0 : decode cX12_goBell 0 = .ok (.iconst 0, 1) := by decide +kernel
theorem dX12_goBell_1 : decode cX12_goBell 1 = .ok (.istore_n 1, 1) := by decide +kernel
theorem dX12_goBell_2 : decode cX12_goBell 2 = .ok (.iload_n 1, 1) := by decide +kernel
theorem dX12_goBell_3 : decode cX12_goBell 3 = .ok (.aload_n 0, 1) := by decide +kernel
theorem dX12_goBell_4 : decode cX12_goBell 4 = .ok (.getfield 134, 3) := by decide +kernel
theorem dX12_goBell_7 : decode cX12_goBell 7 = .ok (.if_icmp .ge 83, 3) := by decide +kernel
theorem dX12_goBell_10 : decode cX12_goBell 10 = .ok (.aload_n 0, 1) := by decide +kernel
theorem dX12_goBell_11 : decode cX12_goBell 11 = .ok (.getfield 57, 3) := by decide +kernel
theorem dX12_goBell_14 : decode cX12_goBell 14 = .ok (.iload_n 1, 1) := by decide +kernel
theorem dX12_goBell_15 : decode cX12_goBell 15 = .ok (.aload_n 0, 1) := by decide +kernel
theorem dX12_goBell_16 : decode cX12_goBell 16 = .ok (.getfield 28, 3) := by decide +kernel
theorem dX12_goBell_19 : decode cX12_goBell 19 = .ok (.iload_n 1, 1) := by decide +kernel
theorem dX12_goBell_20 : decode cX12_goBell 20 = .ok (.iaload, 1) := by decide +kernel
theorem dX12_goBell_21 : decode cX12_goBell 21 = .ok (.ifCond .le 7, 3) := by decide +kernel
theorem dX12_goBell_24 : decode cX12_goBell 24 = .ok (.iconst 0, 1) := by decide +kernel
theorem dX12_goBell_25 : decode cX12_goBell 25 = .ok (.goto 18, 3) := by decide +kernel
theorem dX12_goBell_28 : decode cX12_goBell 28 = .ok (.aload_n 0, 1) := by decide +kernel
theorem dX12_goBell_29 : decode cX12_goBell 29 = .ok (.getfield 16, 3) := by decide +kernel
theorem dX12_goBell_32 : decode cX12_goBell 32 = .ok (.iload_n 1, 1) := by decide +kernel
theorem dX12_goBell_33 : decode cX12_goBell 33 = .ok (.iaload, 1) := by decide +kernel
theorem dX12_goBell_34 : decode cX12_goBell 34 = .ok (.aload_n 0, 1) := by decide +kernel
theorem dX12_goBell_35 : decode cX12_goBell 35 = .ok (.getfield 13, 3) := by decide +kernel
theorem dX12_goBell_38 : decode cX12_goBell 38 = .ok (.iload_n 1, 1) := by decide +kernel
theorem dX12_goBell_39 : decode cX12_goBell 39 = .ok (.iaload, 1) := by decide +kernel
theorem dX12_goBell_40 : decode cX12_goBell 40 = .ok (.invokestatic 234, 3) := by decide +kernel
theorem dX12_goBell_43 : decode cX12_goBell 43 = .ok (.iastore, 1) := by decide +kernel
theorem dX12_goBell_44 : decode cX12_goBell 44 = .ok (.iconst 0, 1) := by decide +kernel
theorem dX12_goBell_45 : decode cX12_goBell 45 = .ok (.istore_n 2, 1) := by decide +kernel
theorem dX12_goBell_46 : decode cX12_goBell 46 = .ok (.iload_n 2, 1) := by decide +kernel
theorem dX12_goBell_47 : decode cX12_goBell 47 = .ok (.aload_n 0, 1) := by decide +kernel
theorem dX12_goBell_48 : decode cX12_goBell 48 = .ok (.getfield 57, 3) := by decide +kernel
theorem dX12_goBell_51 : decode cX12_goBell 51 = .ok (.iload_n 1, 1) := by decide +kernel
theorem dX12_goBell_52 : decode cX12_goBell 52 = .ok (.iaload, 1) := by decide +kernel
theorem dX12_goBell_53 : decode cX12_goBell 53 = .ok (.if_icmp .ge 31, 3) := by decide +kernel
theorem dX12_goBell_56 : decode cX12_goBell 56 = .ok (.aload_n 0, 1) := by decide +kernel
theorem dX12_goBell_57 : decode cX12_goBell 57 = .ok (.getfield 60, 3) := by decide +kernel
theorem dX12_goBell_60 : decode cX12_goBell 60 = .ok (.bipush 9, 2) := by decide +kernel
theorem dX12_goBell_62 : decode cX12_goBell 62 = .ok (.iload_n 1, 1) := by decide +kernel
theorem dX12_goBell_63 : decode cX12_goBell 63 = .ok (.imul, 1) := by decide +kernel
theorem dX12_goBell_64 : decode cX12_goBell 64 = .ok (.iload_n 2, 1) := by decide +kernel
theorem dX12_goBell_65 : decode cX12_goBell 65 = .ok (.iadd, 1) := by decide +kernel
theorem dX12_goBell_66 : decode cX12_goBell 66 = .ok (.aload_n 0, 1) := by decide +kernel
theorem dX12_goBell_67 : decode cX12_goBell 67 = .ok (.getfield 31, 3) := by decide +kernel
theorem dX12_goBell_70 : decode cX12_goBell 70 = .ok (.bipush 60, 2) := by decide +kernel
theorem dX12_goBell_72 : decode cX12_goBell 72 = .ok (.iload_n 1, 1) := by decide +kernel
theorem dX12_goBell_73 : decode cX12_goBell 73 = .ok (.imul, 1) := by decide +kernel
theorem dX12_goBell_74 : decode cX12_goBell 74 = .ok (.iload_n 2, 1) := by decide +kernel
theorem dX12_goBell_75 : decode cX12_goBell 75 = .ok (.iadd, 1) := by decide +kernel
theorem dX12_goBell_76 : decode cX12_goBell 76 = .ok (.iaload, 1) := by decide +kernel
theorem dX12_goBell_77 : decode cX12_goBell 77 = .ok (.iastore, 1) := by decide +kernel
theorem dX12_goBell_78 : decode cX12_goBell 78 = .ok (.iinc 2 1, 3) := by decide +kernel
theorem dX12_goBell_81 : decode cX12_goBell 81 = .ok (.goto (-35), 3) := by decide +kernel
theorem dX12_goBell_84 : decode cX12_goBell 84 = .ok (.iinc 1 1, 3) := by decide +kernel
theorem dX12_goBell_87 : decode cX12_goBell 87 = .ok (.goto (-85), 3) := by decide +kernel
theorem dX12_goBell_90 : decode cX12_goBell 90 = .ok (.iconst 0, 1) := by decide +kernel
theorem dX12_goBell_91 : decode cX12_goBell 91 = .ok (.istore_n 1, 1) := by decide +kernel
theorem dX12_goBell_92 : decode cX12_goBell 92 = .ok (.iload_n 1, 1) := by decide +kernel
theorem dX12_goBell_93 : decode cX12_goBell 93 = .ok (.aload_n 0, 1) := by decide +kernel
theorem dX12_goBell_94 : decode cX12_goBell 94 = .ok (.getfield 134, 3) := by decide +kernel
theorem dX12_goBell_97 : decode cX12_goBell 97 = .ok (.if_icmp .ge 20, 3) := by decide +kernel
theorem dX12_goBell_100 : decode cX12_goBell 100 = .ok (.aload_n 0, 1) := by decide +kernel
theorem dX12_goBell_101 : decode cX12_goBell 101 = .ok (.iload_n 1, 1) := by decide +kernel
theorem dX12_goBell_102 : decode cX12_goBell 102 = .ok (.aload_n 0, 1) := by decide +kernel
theorem dX12_goBell_103 : decode cX12_goBell 103 = .ok (.getfield 57, 3) := by decide +kernel
theorem dX12_goBell_106 : decode cX12_goBell 106 = .ok (.iload_n 1, 1) := by decide +kernel
theorem dX12_goBell_107 : decode cX12_goBell 107 = .ok (.iaload, 1) := by decide +kernel
theorem dX12_goBell_108 : decode cX12_goBell 108 = .ok (.invokevirtual 243, 3) := by decide +kernel
theorem dX12_goBell_111 : decode cX12_goBell 111 = .ok (.iinc 1 1, 3) := by decide +kernel
theorem dX12_goBell_114 : decode cX12_goBell 114 = .ok (.goto (-22), 3) := by decide +kernel
theorem dX12_goBell_117 : decode cX12_goBell 117 = .ok (.iconst 0, 1) := by decide +kernel
theorem dX12_goBell_118 : decode cX12_goBell 118 = .ok (.istore_n 1, 1) := by decide +kernel
theorem dX12_goBell_119 : decode cX12_goBell 119 = .ok (.iconst 0, 1) := by decide +kernel
theorem dX12_goBell_120 : decode cX12_goBell 120 = .ok (.istore_n 2, 1) := by decide +kernel
theorem dX12_goBell_121 : decode cX12_goBell 121 = .ok (.iload_n 2, 1) := by decide +kernel
theorem dX12_goBell_122 : decode cX12_goBell 122 = .ok (.aload_n 0, 1) := by decide +kernel
theorem dX12_goBell_123 : decode cX12_goBell 123 = .ok (.getfield 134, 3) := by decide +kernel
theorem dX12_goBell_126 : decode cX12_goBell 126 = .ok (.if_icmp .ge 124, 3) := by decide +kernel
theorem dX12_goBell_129 : decode cX12_goBell 129 = .ok (.aload_n 0, 1) := by decide +kernel
theorem dX12_goBell_130 : decode cX12_goBell 130 = .ok (.getfield 25, 3) := by decide +kernel
theorem dX12_goBell_133 : decode cX12_goBell 133 = .ok (.iload_n 2, 1) := by decide +kernel
theorem dX12_goBell_134 : decode cX12_goBell 134 = .ok (.iaload, 1) := by decide +kernel
theorem dX12_goBell_135 : decode cX12_goBell 135 = .ok (.istore_n 3, 1) := by decide +kernel
theorem dX12_goBell_136 : decode cX12_goBell 136 = .ok (.iload_n 3, 1) := by decide +kernel
theorem dX12_goBell_137 : decode cX12_goBell 137 = .ok (.iconst (-1), 1) := by decide +kernel
theorem dX12_goBell_138 : decode cX12_goBell 138 = .ok (.if_icmp .ne 7, 3) := by decide +kernel
theorem dX12_goBell_141 : decode cX12_goBell 141 = .ok (.iconst 0, 1) := by decide +kernel
theorem dX12_goBell_142 : decode cX12_goBell 142 = .ok (.goto 25, 3) := by decide +kernel
theorem dX12_goBell_145 : decode cX12_goBell 145 = .ok (.aload_n 0, 1) := by decide +kernel
theorem dX12_goBell_146 : decode cX12_goBell 146 = .ok (.getfield 57, 3) := by decide +kernel
theorem dX12_goBell_149 : decode cX12_goBell 149 = .ok (.iload_n 2, 1) := by decide +kernel
theorem dX12_goBell_150 : decode cX12_goBell 150 = .ok (.iaload, 1) := by decide +kernel
theorem dX12_goBell_151 : decode cX12_goBell 151 = .ok (.aload_n 0, 1) := by decide +kernel
theorem dX12_goBell_152 : decode cX12_goBell 152 = .ok (.getfield 9, 3) := by decide +kernel
theorem dX12_goBell_155 : decode cX12_goBell 155 = .ok (.iload_n 3, 1) := by decide +kernel
theorem dX12_goBell_156 : decode cX12_goBell 156 = .ok (.iaload, 1) := by decide +kernel
theorem dX12_goBell_157 : decode cX12_goBell 157 = .ok (.aload_n 0, 1) := by decide +kernel
theorem dX12_goBell_158 : decode cX12_goBell 158 = .ok (.getfield 13, 3) := by decide +kernel
theorem dX12_goBell_161 : decode cX12_goBell 161 = .ok (.iload_n 3, 1) := by decide +kernel
theorem dX12_goBell_162 : decode cX12_goBell 162 = .ok (.iaload, 1) := by decide +kernel
theorem dX12_goBell_163 : decode cX12_goBell 163 = .ok (.isub, 1) := by decide +kernel
theorem dX12_goBell_164 : decode cX12_goBell 164 = .ok (.invokestatic 234, 3) := by decide +kernel
theorem dX12_goBell_167 : decode cX12_goBell 167 = .ok (.istore 4, 2) := by decide +kernel
theorem dX12_goBell_169 : decode cX12_goBell 169 = .ok (.iconst 0, 1) := by decide +kernel
theorem dX12_goBell_170 : decode cX12_goBell 170 = .ok (.istore 5, 2) := by decide +kernel
theorem dX12_goBell_172 : decode cX12_goBell 172 = .ok (.iload 5, 2) := by decide +kernel
theorem dX12_goBell_174 : decode cX12_goBell 174 = .ok (.iload 4, 2) := by decide +kernel
theorem dX12_goBell_176 : decode cX12_goBell 176 = .ok (.if_icmp .ge 40, 3) := by decide +kernel
theorem dX12_goBell_179 : decode cX12_goBell 179 = .ok (.aload_n 0, 1) := by decide +kernel
theorem dX12_goBell_180 : decode cX12_goBell 180 = .ok (.getfield 31, 3) := by decide +kernel
theorem dX12_goBell_183 : decode cX12_goBell 183 = .ok (.bipush 60, 2) := by decide +kernel
theorem dX12_goBell_185 : decode cX12_goBell 185 = .ok (.iload_n 3, 1) := by decide +kernel
theorem dX12_goBell_186 : decode cX12_goBell 186 = .ok (.imul, 1) := by decide +kernel
theorem dX12_goBell_187 : decode cX12_goBell 187 = .ok (.aload_n 0, 1) := by decide +kernel
theorem dX12_goBell_188 : decode cX12_goBell 188 = .ok (.getfield 13, 3) := by decide +kernel
theorem dX12_goBell_191 : decode cX12_goBell 191 = .ok (.iload_n 3, 1) := by decide +kernel
theorem dX12_goBell_192 : decode cX12_goBell 192 = .ok (.iaload, 1) := by decide +kernel
theorem dX12_goBell_193 : decode cX12_goBell 193 = .ok (.iadd, 1) := by decide +kernel
theorem dX12_goBell_194 : decode cX12_goBell 194 = .ok (.iload 5, 2) := by decide +kernel
theorem dX12_goBell_196 : decode cX12_goBell 196 = .ok (.iadd, 1) := by decide +kernel
theorem dX12_goBell_197 : decode cX12_goBell 197 = .ok (.aload_n 0, 1) := by decide +kernel
theorem dX12_goBell_198 : decode cX12_goBell 198 = .ok (.getfield 60, 3) := by decide +kernel
theorem dX12_goBell_201 : decode cX12_goBell 201 = .ok (.bipush 9, 2) := by decide +kernel
theorem dX12_goBell_203 : decode cX12_goBell 203 = .ok (.iload_n 2, 1) := by decide +kernel
theorem dX12_goBell_204 : decode cX12_goBell 204 = .ok (.imul, 1) := by decide +kernel
theorem dX12_goBell_205 : decode cX12_goBell 205 = .ok (.iload 5, 2) := by decide +kernel
theorem dX12_goBell_207 : decode cX12_goBell 207 = .ok (.iadd, 1) := by decide +kernel
theorem dX12_goBell_208 : decode cX12_goBell 208 = .ok (.iaload, 1) := by decide +kernel
theorem dX12_goBell_209 : decode cX12_goBell 209 = .ok (.iastore, 1) := by decide +kernel
theorem dX12_goBell_210 : decode cX12_goBell 210 = .ok (.iinc 5 1, 3) := by decide +kernel
theorem dX12_goBell_213 : decode cX12_goBell 213 = .ok (.goto (-41), 3) := by decide +kernel
theorem dX12_goBell_216 : decode cX12_goBell 216 = .ok (.iload 4, 2) := by decide +kernel
theorem dX12_goBell_218 : decode cX12_goBell 218 = .ok (.ifCond .le 14, 3) := by decide +kernel
theorem dX12_goBell_221 : decode cX12_goBell 221 = .ok (.aload_n 0, 1) := by decide +kernel
theorem dX12_goBell_222 : decode cX12_goBell 222 = .ok (.getfield 13, 3) := by decide +kernel
theorem dX12_goBell_225 : decode cX12_goBell 225 = .ok (.iload_n 3, 1) := by decide +kernel
theorem dX12_goBell_226 : decode cX12_goBell 226 = .ok (.dup2, 1) := by decide +kernel
theorem dX12_goBell_227 : decode cX12_goBell 227 = .ok (.iaload, 1) := by decide +kernel
theorem dX12_goBell_228 : decode cX12_goBell 228 = .ok (.iload 4, 2) := by decide +kernel
theorem dX12_goBell_230 : decode cX12_goBell 230 = .ok (.iadd, 1) := by decide +kernel
theorem dX12_goBell_231 : decode cX12_goBell 231 = .ok (.iastore, 1) := by decide +kernel
theorem dX12_goBell_232 : decode cX12_goBell 232 = .ok (.iload_n 1, 1) := by decide +kernel
theorem dX12_goBell_233 : decode cX12_goBell 233 = .ok (.aload_n 0, 1) := by decide +kernel
theorem dX12_goBell_234 : decode cX12_goBell 234 = .ok (.getfield 57, 3) := by decide +kernel
theorem dX12_goBell_237 : decode cX12_goBell 237 = .ok (.iload_n 2, 1) := by decide +kernel
theorem dX12_goBell_238 : decode cX12_goBell 238 = .ok (.iaload, 1) := by decide +kernel
theorem dX12_goBell_239 : decode cX12_goBell 239 = .ok (.iload 4, 2) := by decide +kernel
theorem dX12_goBell_241 : decode cX12_goBell 241 = .ok (.isub, 1) := by decide +kernel
theorem dX12_goBell_242 : decode cX12_goBell 242 = .ok (.iadd, 1) := by decide +kernel
theorem dX12_goBell_243 : decode cX12_goBell 243 = .ok (.istore_n 1, 1) := by decide +kernel
theorem dX12_goBell_244 : decode cX12_goBell 244 = .ok (.iinc 2 1, 3) := by decide +kernel
theorem dX12_goBell_247 : decode cX12_goBell 247 = .ok (.goto (-126), 3) := by decide +kernel
theorem dX12_goBell_250 : decode cX12_goBell 250 = .ok (.iconst 0, 1) := by decide +kernel
theorem dX12_goBell_251 : decode cX12_goBell 251 = .ok (.istore_n 2, 1) := by decide +kernel
theorem dX12_goBell_252 : decode cX12_goBell 252 = .ok (.iload_n 2, 1) := by decide +kernel
theorem dX12_goBell_253 : decode cX12_goBell 253 = .ok (.aload_n 0, 1) := by decide +kernel
theorem dX12_goBell_254 : decode cX12_goBell 254 = .ok (.getfield 134, 3) := by decide +kernel
theorem dX12_goBell_257 : decode cX12_goBell 257 = .ok (.if_icmp .ge 27, 3) := by decide +kernel
theorem dX12_goBell_260 : decode cX12_goBell 260 = .ok (.aload_n 0, 1) := by decide +kernel
theorem dX12_goBell_261 : decode cX12_goBell 261 = .ok (.getfield 28, 3) := by decide +kernel
theorem dX12_goBell_264 : decode cX12_goBell 264 = .ok (.iload_n 2, 1) := by decide +kernel
theorem dX12_goBell_265 : decode cX12_goBell 265 = .ok (.iconst 0, 1) := by decide +kernel
theorem dX12_goBell_266 : decode cX12_goBell 266 = .ok (.aload_n 0, 1) := by decide +kernel
theorem dX12_goBell_267 : decode cX12_goBell 267 = .ok (.getfield 28, 3) := by decide +kernel
theorem dX12_goBell_270 : decode cX12_goBell 270 = .ok (.iload_n 2, 1) := by decide +kernel
theorem dX12_goBell_271 : decode cX12_goBell 271 = .ok (.iaload, 1) := by decide +kernel
theorem dX12_goBell_272 : decode cX12_goBell 272 = .ok (.iconst 1, 1) := by decide +kernel
theorem dX12_goBell_273 : decode cX12_goBell 273 = .ok (.isub, 1) := by decide +kernel
theorem dX12_goBell_274 : decode cX12_goBell 274 = .ok (.invokestatic 240, 3) := by decide +kernel
theorem dX12_goBell_277 : decode cX12_goBell 277 = .ok (.iastore, 1) := by decide +kernel
theorem dX12_goBell_278 : decode cX12_goBell 278 = .ok (.iinc 2 1, 3) := by decide +kernel
theorem dX12_goBell_281 : decode cX12_goBell 281 = .ok (.goto (-29), 3) := by decide +kernel
theorem dX12_goBell_284 : decode cX12_goBell 284 = .ok (.aload_n 0, 1) := by decide +kernel
theorem dX12_goBell_285 : decode cX12_goBell 285 = .ok (.dup, 1) := by decide +kernel
theorem dX12_goBell_286 : decode cX12_goBell 286 = .ok (.getfield 216, 3) := by decide +kernel
theorem dX12_goBell_289 : decode cX12_goBell 289 = .ok (.iconst 1, 1) := by decide +kernel
theorem dX12_goBell_290 : decode cX12_goBell 290 = .ok (.iadd, 1) := by decide +kernel
theorem dX12_goBell_291 : decode cX12_goBell 291 = .ok (.putfield 216, 3) := by decide +kernel
theorem dX12_goBell_294 : decode cX12_goBell 294 = .ok (.aload_n 0, 1) := by decide +kernel
theorem dX12_goBell_295 : decode cX12_goBell 295 = .ok (.dup, 1) := by decide +kernel
theorem dX12_goBell_296 : decode cX12_goBell 296 = .ok (.getfield 247, 3) := by decide +kernel
theorem dX12_goBell_299 : decode cX12_goBell 299 = .ok (.iload_n 1, 1) := by decide +kernel
theorem dX12_goBell_300 : decode cX12_goBell 300 = .ok (.iadd, 1) := by decide +kernel
theorem dX12_goBell_301 : decode cX12_goBell 301 = .ok (.putfield 247, 3) := by decide +kernel
theorem dX12_goBell_304 : decode cX12_goBell 304 = .ok (.iload_n 1, 1) := by decide +kernel
theorem dX12_goBell_305 : decode cX12_goBell 305 = .ok (.ireturn, 1) := by decide +kernel
theorem bkX12_goBell_0 {b : Int} {mem : qm} {Q : Int → qm → Prop}
    (l1 : q_At yX12_goBell cX12_goBell 6 (some .int) 2 0 0 (qK (q_rb b) Q) 2 [(2, 188), (0, 0), (4, 0), (4, 0), (4, 0), (4, 0)] [] (q_sh0, q_rb b, mem)) :
    q_At yX12_goBell cX12_goBell 6 (some .int) 2 0 0 (qK (q_rb b) Q) 0 [(2, 188), (4, 0), (4, 0), (4, 0), (4, 0), (4, 0)] [] (q_sh0, q_rb b, mem) := by
  refine qx_iconst dX12_goBell_0 rfl rfl ?_
  refine qx_istore_n (L' := [(2, 188), (0, 0), (4, 0), (4, 0), (4, 0), (4, 0)]) dX12_goBell_1 rfl rfl rfl rfl ?_
  exact l1
theorem bkX12_goBell_2 {b : Int} {mem : qm} {Q : Int → qm → Prop}
    {v1 : Int}
    (l1 : (mem 188 0) ≤ v1 → q_At yX12_goBell cX12_goBell 6 (some .int) 2 0 0 (qK (q_rb b) Q) 92 [(2, 188), (0, 0), (4, 0), (4, 0), (4, 0), (4, 0)] [] (q_sh0, q_rb b, mem))
    (o2 : v1 < (mem 188 0) → (0 ≤ v1 ∧ v1 < 9))
    (l3 : v1 < (mem 188 0) → (mem 195 v1) ≤ 0 → q_At yX12_goBell cX12_goBell 6 (some .int) 2 0 0 (qK (q_rb b) Q) 46 [(2, 188), (0, v1), (0, 0), (4, 0), (4, 0), (4, 0)] [] (q_sh0, q_rb b, (q_up mem 202 v1 (min (mem 191 v1) (mem 190 v1)))))
    (l4 : v1 < (mem 188 0) → 0 < (mem 195 v1) → q_At yX12_goBell cX12_goBell 6 (some .int) 2 0 0 (qK (q_rb b) Q) 46 [(2, 188), (0, v1), (0, 0), (4, 0), (4, 0), (4, 0)] [] (q_sh0, q_rb b, (q_up mem 202 v1 0))) :
    q_At yX12_goBell cX12_goBell 6 (some .int) 2 0 0 (qK (q_rb b) Q) 2 [(2, 188), (0, v1), (4, 0), (4, 0), (4, 0), (4, 0)] [] (q_sh0, q_rb b, mem) := by
  refine q_iload_n dX12_goBell_2 rfl rfl ?_
  refine q_aload_n dX12_goBell_3 rfl rfl ?_
  refine qx_getI (ci := 12) (k := 0) (v := (mem 188 0)) dX12_goBell_4 rfl rfl rfl tw1183 rfl qs188 rfl ?_
  refine qx_icmp_ge (tgt := 90) dX12_goBell_7 (by decide) (fun c1 => ?_) (fun c1 => ?_)
  · skip
    refine qx_iconst dX12_goBell_90 rfl rfl ?_
    refine qx_istore_n (L' := [(2, 188), (0, 0), (4, 0), (4, 0), (4, 0), (4, 0)]) dX12_goBell_91 rfl rfl rfl rfl ?_
    exact l1 c1
  · skip
    refine q_aload_n dX12_goBell_10 rfl rfl ?_
    refine q_getR (ci := 12) (k := 27) dX12_goBell_11 rfl (by decide) rfl tw1210 (by decide) qs188 qw188_27 (by decide) ?_
    refine q_iload_n dX12_goBell_14 rfl rfl ?_
    refine q_aload_n dX12_goBell_15 rfl rfl ?_
    refine q_getR (ci := 12) (k := 7) dX12_goBell_16 rfl (by decide) rfl tw1190 (by decide) qs188 qw188_7 (by decide) ?_
    refine q_iload_n dX12_goBell_19 rfl rfl ?_
    refine qx_iald (v := (mem 195 v1)) dX12_goBell_20 qs195 (o2 c1) rfl ?_
    refine qx_if_le (tgt := 28) dX12_goBell_21 (by decide) (fun c2 => ?_) (fun c2 => ?_)
    · skip
      refine q_aload_n dX12_goBell_28 rfl rfl ?_
      refine q_getR (ci := 12) (k := 3) dX12_goBell_29 rfl (by decide) rfl tw1186 (by decide) qs188 qw188_3 (by decide) ?_
      refine q_iload_n dX12_goBell_32 rfl rfl ?_
      refine qx_iald (v := (mem 191 v1)) dX12_goBell_33 qs191 (o2 c1) rfl ?_
      refine q_aload_n dX12_goBell_34 rfl rfl ?_
      refine q_getR (ci := 12) (k := 2) dX12_goBell_35 rfl (by decide) rfl tw1185 (by decide) qs188 qw188_2 (by decide) ?_
      refine q_iload_n dX12_goBell_38 rfl rfl ?_
      refine qx_iald (v := (mem 190 v1)) dX12_goBell_39 qs190 (o2 c1) rfl ?_
      refine q_min dX12_goBell_40 tw1457 tw429 tw15 tw430 (by decide) (Nat.le_of_ble_eq_true rfl) ?_
      refine q_iast dX12_goBell_43 qs202 ((o2 c1)).1 ((o2 c1)).2 ?_
      refine qx_iconst dX12_goBell_44 rfl rfl ?_
      refine qx_istore_n (L' := [(2, 188), (0, v1), (0, 0), (4, 0), (4, 0), (4, 0)]) dX12_goBell_45 rfl rfl rfl rfl ?_
      exact l3 c1 c2
    · skip
      refine qx_iconst dX12_goBell_24 rfl rfl ?_
      refine q_goto (tgt := 43) dX12_goBell_25 (by decide) ?_
      refine q_iast dX12_goBell_43 qs202 ((o2 c1)).1 ((o2 c1)).2 ?_
      refine qx_iconst dX12_goBell_44 rfl rfl ?_
      refine qx_istore_n (L' := [(2, 188), (0, v1), (0, 0), (4, 0), (4, 0), (4, 0)]) dX12_goBell_45 rfl rfl rfl rfl ?_
      exact l4 c1 c2
theorem bkX12_goBell_46 {b : Int} {mem : qm} {Q : Int → qm → Prop}
    {v1 v2 : Int}
    (o1 : (0 ≤ v1 ∧ v1 < 9))
    (o2 : (mem 202 v1) ≤ v2 → q_in32 (v1 + 1))
    (l3 : (mem 202 v1) ≤ v2 → q_At yX12_goBell cX12_goBell 6 (some .int) 2 0 0 (qK (q_rb b) Q) 2 [(2, 188), (0, (v1 + 1)), (4, 0), (4, 0), (4, 0), (4, 0)] [] (q_sh0, q_rb b, mem))
    (o4 : v2 < (mem 202 v1) → q_in32 (9 * v1) ∧ q_in32 ((9 * v1) + v2) ∧ q_in32 (60 * v1) ∧ q_in32 ((60 * v1) + v2) ∧ (0 ≤ ((60 * v1) + v2) ∧ ((60 * v1) + v2) < 540) ∧ (0 ≤ ((9 * v1) + v2) ∧ ((9 * v1) + v2) < 81) ∧ q_in32 (v2 + 1))
    (l5 : v2 < (mem 202 v1) → q_At yX12_goBell cX12_goBell 6 (some .int) 2 0 0 (qK (q_rb b) Q) 46 [(2, 188), (0, v1), (0, (v2 + 1)), (4, 0), (4, 0), (4, 0)] [] (q_sh0, q_rb b, (q_up mem 203 ((9 * v1) + v2) (mem 196 ((60 * v1) + v2))))) :
    q_At yX12_goBell cX12_goBell 6 (some .int) 2 0 0 (qK (q_rb b) Q) 46 [(2, 188), (0, v1), (0, v2), (4, 0), (4, 0), (4, 0)] [] (q_sh0, q_rb b, mem) := by
  refine q_iload_n dX12_goBell_46 rfl rfl ?_
  refine q_aload_n dX12_goBell_47 rfl rfl ?_
  refine q_getR (ci := 12) (k := 27) dX12_goBell_48 rfl (by decide) rfl tw1210 (by decide) qs188 qw188_27 (by decide) ?_
  refine q_iload_n dX12_goBell_51 rfl rfl ?_
  refine qx_iald (v := (mem 202 v1)) dX12_goBell_52 qs202 (o1) rfl ?_
  refine qx_icmp_ge (tgt := 84) dX12_goBell_53 (by decide) (fun c1 => ?_) (fun c1 => ?_)
  · skip
    refine qx_iinc (L' := [(2, 188), (0, (v1 + 1)), (0, v2), (4, 0), (4, 0), (4, 0)]) dX12_goBell_84 rfl rfl rfl (o2 c1) rfl ?_
    refine q_goto (tgt := 2) dX12_goBell_87 (by decide) ?_
    refine q_kill (L' := [(2, 188), (0, (v1 + 1)), (4, 0), (4, 0), (4, 0), (4, 0)]) 2 rfl ?_
    exact l3 c1
  · skip
    refine q_aload_n dX12_goBell_56 rfl rfl ?_
    refine q_getR (ci := 12) (k := 28) dX12_goBell_57 rfl (by decide) rfl tw1211 (by decide) qs188 qw188_28 (by decide) ?_
    refine qx_bipush dX12_goBell_60 rfl rfl ?_
    refine q_iload_n dX12_goBell_62 rfl rfl ?_
    refine qx_imul dX12_goBell_63 (o4 c1).1 ?_
    refine q_iload_n dX12_goBell_64 rfl rfl ?_
    refine qx_iadd dX12_goBell_65 (o4 c1).2.1 ?_
    refine q_aload_n dX12_goBell_66 rfl rfl ?_
    refine q_getR (ci := 12) (k := 8) dX12_goBell_67 rfl (by decide) rfl tw1191 (by decide) qs188 qw188_8 (by decide) ?_
    refine qx_bipush dX12_goBell_70 rfl rfl ?_
    refine q_iload_n dX12_goBell_72 rfl rfl ?_
    refine qx_imul dX12_goBell_73 (o4 c1).2.2.1 ?_
    refine q_iload_n dX12_goBell_74 rfl rfl ?_
    refine qx_iadd dX12_goBell_75 (o4 c1).2.2.2.1 ?_
    refine qx_iald (v := (mem 196 ((60 * v1) + v2))) dX12_goBell_76 qs196 (o4 c1).2.2.2.2.1 rfl ?_
    refine q_iast dX12_goBell_77 qs203 ((o4 c1).2.2.2.2.2.1).1 ((o4 c1).2.2.2.2.2.1).2 ?_
    refine qx_iinc (L' := [(2, 188), (0, v1), (0, (v2 + 1)), (4, 0), (4, 0), (4, 0)]) dX12_goBell_78 rfl rfl rfl (o4 c1).2.2.2.2.2.2 rfl ?_
    refine q_goto (tgt := 46) dX12_goBell_81 (by decide) ?_
    exact l5 c1
theorem bkX12_goBell_92 {b : Int} {mem : qm} {Q : Int → qm → Prop}
    {v1 : Int}
    (l1 : (mem 188 0) ≤ v1 → q_At yX12_goBell cX12_goBell 6 (some .int) 2 0 0 (qK (q_rb b) Q) 121 [(2, 188), (0, 0), (0, 0), (4, 0), (4, 0), (4, 0)] [] (q_sh0, q_rb b, mem))
    (o2 : v1 < (mem 188 0) → (0 ≤ v1 ∧ v1 < 9))
    {P2 : Int → qm → Prop}
    (l3 : v1 < (mem 188 0) → q_Ev yX12_letGo cX12_letGo 4 none 1 0 0 [(2, 188), (0, v1), (0, (mem 202 v1))] (q_sh0, q_rb b, mem) (qK (q_rb b) (P2)))
    (o4 : v1 < (mem 188 0) → ∀ (r2 : Int), ∀ (m2 : qm), P2 r2 m2 → q_in32 r2 → q_in32 (v1 + 1))
    (l5 : v1 < (mem 188 0) → ∀ (r2 : Int), ∀ (m2 : qm), P2 r2 m2 → q_in32 r2 → q_At yX12_goBell cX12_goBell 6 (some .int) 2 0 0 (qK (q_rb b) Q) 92 [(2, 188), (0, (v1 + 1)), (4, 0), (4, 0), (4, 0), (4, 0)] [] (q_sh0, q_rb b, m2)) :
    q_At yX12_goBell cX12_goBell 6 (some .int) 2 0 0 (qK (q_rb b) Q) 92 [(2, 188), (0, v1), (4, 0), (4, 0), (4, 0), (4, 0)] [] (q_sh0, q_rb b, mem) := by
  refine q_iload_n dX12_goBell_92 rfl rfl ?_
  refine q_aload_n dX12_goBell_93 rfl rfl ?_
  refine qx_getI (ci := 12) (k := 0) (v := (mem 188 0)) dX12_goBell_94 rfl rfl rfl tw1183 rfl qs188 rfl ?_
  refine qx_icmp_ge (tgt := 117) dX12_goBell_97 (by decide) (fun c1 => ?_) (fun c1 => ?_)
  · skip
    refine qx_iconst dX12_goBell_117 rfl rfl ?_
    refine qx_istore_n (L' := [(2, 188), (0, 0), (4, 0), (4, 0), (4, 0), (4, 0)]) dX12_goBell_118 rfl rfl rfl rfl ?_
    refine qx_iconst dX12_goBell_119 rfl rfl ?_
    refine qx_istore_n (L' := [(2, 188), (0, 0), (0, 0), (4, 0), (4, 0), (4, 0)]) dX12_goBell_120 rfl rfl rfl rfl ?_
    exact l1 c1
  · skip
    refine q_aload_n dX12_goBell_100 rfl rfl ?_
    refine q_iload_n dX12_goBell_101 rfl rfl ?_
    refine q_aload_n dX12_goBell_102 rfl rfl ?_
    refine q_getR (ci := 12) (k := 27) dX12_goBell_103 rfl (by decide) rfl tw1210 (by decide) qs188 qw188_27 (by decide) ?_
    refine q_iload_n dX12_goBell_106 rfl rfl ?_
    refine qx_iald (v := (mem 202 v1)) dX12_goBell_107 qs202 (o2 c1) rfl ?_
    refine qx_invV (ci := 12) [(0, v1), (0, (mem 202 v1))] [(0, (mem 202 v1)), (0, v1), (2, 188)] rfl qM_X12_letGo dX12_goBell_108 tw1490 rfl qs188 rfl rfl rfl rfl (l3 c1) (fun r2 m2 p2 q2 => ?_)
    refine qx_iinc (L' := [(2, 188), (0, (v1 + 1)), (4, 0), (4, 0), (4, 0), (4, 0)]) dX12_goBell_111 rfl rfl rfl (o4 c1 r2 m2 p2 q2) rfl ?_
    refine q_goto (tgt := 92) dX12_goBell_114 (by decide) ?_
    exact l5 c1 r2 m2 p2 q2
theorem bkX12_goBell_121 {b : Int} {mem : qm} {Q : Int → qm → Prop}
    {v1 v2 : Int}
    (l1 : (mem 188 0) ≤ v2 → q_At yX12_goBell cX12_goBell 6 (some .int) 2 0 0 (qK (q_rb b) Q) 252 [(2, 188), (0, v1), (0, 0), (4, 0), (4, 0), (4, 0)] [] (q_sh0, q_rb b, mem))
    (o2 : v2 < (mem 188 0) → (0 ≤ v2 ∧ v2 < 9))
    (o3 : v2 < (mem 188 0) → (mem 194 v2) ≠ (-1) → (0 ≤ (mem 194 v2) ∧ (mem 194 v2) < 9) ∧ q_in32 ((mem 189 (mem 194 v2)) - (mem 190 (mem 194 v2))))
    (l4 : v2 < (mem 188 0) → (mem 194 v2) ≠ (-1) → q_At yX12_goBell cX12_goBell 6 (some .int) 2 0 0 (qK (q_rb b) Q) 172 [(2, 188), (0, v1), (0, v2), (0, (mem 194 v2)), (0, (min (mem 202 v2) ((mem 189 (mem 194 v2)) - (mem 190 (mem 194 v2))))), (0, 0)] [] (q_sh0, q_rb b, mem))
    (l5 : v2 < (mem 188 0) → (mem 194 v2) = (-1) → q_At yX12_goBell cX12_goBell 6 (some .int) 2 0 0 (qK (q_rb b) Q) 172 [(2, 188), (0, v1), (0, v2), (0, (mem 194 v2)), (0, 0), (0, 0)] [] (q_sh0, q_rb b, mem)) :
    q_At yX12_goBell cX12_goBell 6 (some .int) 2 0 0 (qK (q_rb b) Q) 121 [(2, 188), (0, v1), (0, v2), (4, 0), (4, 0), (4, 0)] [] (q_sh0, q_rb b, mem) := by
  refine q_iload_n dX12_goBell_121 rfl rfl ?_
  refine q_aload_n dX12_goBell_122 rfl rfl ?_
  refine qx_getI (ci := 12) (k := 0) (v := (mem 188 0)) dX12_goBell_123 rfl rfl rfl tw1183 rfl qs188 rfl ?_
  refine qx_icmp_ge (tgt := 250) dX12_goBell_126 (by decide) (fun c1 => ?_) (fun c1 => ?_)
  · skip
    refine qx_iconst dX12_goBell_250 rfl rfl ?_
    refine qx_istore_n (L' := [(2, 188), (0, v1), (0, 0), (4, 0), (4, 0), (4, 0)]) dX12_goBell_251 rfl rfl rfl rfl ?_
    exact l1 c1
  · skip
    refine q_aload_n dX12_goBell_129 rfl rfl ?_
    refine q_getR (ci := 12) (k := 6) dX12_goBell_130 rfl (by decide) rfl tw1189 (by decide) qs188 qw188_6 (by decide) ?_
    refine q_iload_n dX12_goBell_133 rfl rfl ?_
    refine qx_iald (v := (mem 194 v2)) dX12_goBell_134 qs194 (o2 c1) rfl ?_
    refine qx_istore_n (L' := [(2, 188), (0, v1), (0, v2), (0, (mem 194 v2)), (4, 0), (4, 0)]) dX12_goBell_135 rfl rfl rfl rfl ?_
    refine q_iload_n dX12_goBell_136 rfl rfl ?_
    refine qx_iconst dX12_goBell_137 rfl rfl ?_
    refine qx_icmp_ne (tgt := 145) dX12_goBell_138 (by decide) (fun c2 => ?_) (fun c2 => ?_)
    · skip
      refine q_aload_n dX12_goBell_145 rfl rfl ?_
      refine q_getR (ci := 12) (k := 27) dX12_goBell_146 rfl (by decide) rfl tw1210 (by decide) qs188 qw188_27 (by decide) ?_
      refine q_iload_n dX12_goBell_149 rfl rfl ?_
      refine qx_iald (v := (mem 202 v2)) dX12_goBell_150 qs202 (o2 c1) rfl ?_
      refine q_aload_n dX12_goBell_151 rfl rfl ?_
      refine q_getR (ci := 12) (k := 1) dX12_goBell_152 rfl (by decide) rfl tw1184 (by decide) qs188 qw188_1 (by decide) ?_
      refine q_iload_n dX12_goBell_155 rfl rfl ?_
      refine qx_iald (v := (mem 189 (mem 194 v2))) dX12_goBell_156 qs189 (o3 c1 c2).1 rfl ?_
      refine q_aload_n dX12_goBell_157 rfl rfl ?_
      refine q_getR (ci := 12) (k := 2) dX12_goBell_158 rfl (by decide) rfl tw1185 (by decide) qs188 qw188_2 (by decide) ?_
      refine q_iload_n dX12_goBell_161 rfl rfl ?_
      refine qx_iald (v := (mem 190 (mem 194 v2))) dX12_goBell_162 qs190 (o3 c1 c2).1 rfl ?_
      refine qx_isub dX12_goBell_163 (o3 c1 c2).2 ?_
      refine q_min dX12_goBell_164 tw1457 tw429 tw15 tw430 (by decide) (Nat.le_of_ble_eq_true rfl) ?_
      refine qx_istore (L' := [(2, 188), (0, v1), (0, v2), (0, (mem 194 v2)), (0, (min (mem 202 v2) ((mem 189 (mem 194 v2)) - (mem 190 (mem 194 v2))))), (4, 0)]) dX12_goBell_167 rfl rfl rfl ?_
      refine qx_iconst dX12_goBell_169 rfl rfl ?_
      refine qx_istore (L' := [(2, 188), (0, v1), (0, v2), (0, (mem 194 v2)), (0, (min (mem 202 v2) ((mem 189 (mem 194 v2)) - (mem 190 (mem 194 v2))))), (0, 0)]) dX12_goBell_170 rfl rfl rfl ?_
      exact l4 c1 c2
    · skip
      refine qx_iconst dX12_goBell_141 rfl rfl ?_
      refine q_goto (tgt := 167) dX12_goBell_142 (by decide) ?_
      refine qx_istore (L' := [(2, 188), (0, v1), (0, v2), (0, (mem 194 v2)), (0, 0), (4, 0)]) dX12_goBell_167 rfl rfl rfl ?_
      refine qx_iconst dX12_goBell_169 rfl rfl ?_
      refine qx_istore (L' := [(2, 188), (0, v1), (0, v2), (0, (mem 194 v2)), (0, 0), (0, 0)]) dX12_goBell_170 rfl rfl rfl ?_
      exact l5 c1 c2
theorem bkX12_goBell_172 {b : Int} {mem : qm} {Q : Int → qm → Prop}
    {v1 v2 v3 v4 v5 : Int}
    (o1 : v4 ≤ v5 → v4 ≤ 0 → (0 ≤ v2 ∧ v2 < 9) ∧ q_in32 ((mem 202 v2) - v4) ∧ q_in32 (v1 + ((mem 202 v2) - v4)) ∧ q_in32 (v2 + 1))
    (l2 : v4 ≤ v5 → v4 ≤ 0 → q_At yX12_goBell cX12_goBell 6 (some .int) 2 0 0 (qK (q_rb b) Q) 121 [(2, 188), (0, (v1 + ((mem 202 v2) - v4))), (0, (v2 + 1)), (4, 0), (4, 0), (4, 0)] [] (q_sh0, q_rb b, mem))
    (o3 : v4 ≤ v5 → 0 < v4 → (0 ≤ v3 ∧ v3 < 9) ∧ q_in32 ((mem 190 v3) + v4) ∧ (0 ≤ v2 ∧ v2 < 9) ∧ q_in32 ((mem 202 v2) - v4) ∧ q_in32 (v1 + ((mem 202 v2) - v4)) ∧ q_in32 (v2 + 1))
    (l4 : v4 ≤ v5 → 0 < v4 → q_At yX12_goBell cX12_goBell 6 (some .int) 2 0 0 (qK (q_rb b) Q) 121 [(2, 188), (0, (v1 + ((mem 202 v2) - v4))), (0, (v2 + 1)), (4, 0), (4, 0), (4, 0)] [] (q_sh0, q_rb b, (q_up mem 190 v3 ((mem 190 v3) + v4))))
    (o5 : v5 < v4 → q_in32 (60 * v3) ∧ (0 ≤ v3 ∧ v3 < 9) ∧ q_in32 ((60 * v3) + (mem 190 v3)) ∧ q_in32 (((60 * v3) + (mem 190 v3)) + v5) ∧ q_in32 (9 * v2) ∧ q_in32 ((9 * v2) + v5) ∧ (0 ≤ ((9 * v2) + v5) ∧ ((9 * v2) + v5) < 81) ∧ (0 ≤ (((60 * v3) + (mem 190 v3)) + v5) ∧ (((60 * v3) + (mem 190 v3)) + v5) < 540) ∧ q_in32 (v5 + 1))
    (l6 : v5 < v4 → q_At yX12_goBell cX12_goBell 6 (some .int) 2 0 0 (qK (q_rb b) Q) 172 [(2, 188), (0, v1), (0, v2), (0, v3), (0, v4), (0, (v5 + 1))] [] (q_sh0, q_rb b, (q_up mem 196 (((60 * v3) + (mem 190 v3)) + v5) (mem 203 ((9 * v2) + v5))))) :
    q_At yX12_goBell cX12_goBell 6 (some .int) 2 0 0 (qK (q_rb b) Q) 172 [(2, 188), (0, v1), (0, v2), (0, v3), (0, v4), (0, v5)] [] (q_sh0, q_rb b, mem) := by
  refine q_iload dX12_goBell_172 rfl ?_
  refine q_iload dX12_goBell_174 rfl ?_
  refine qx_icmp_ge (tgt := 216) dX12_goBell_176 (by decide) (fun c1 => ?_) (fun c1 => ?_)
  · skip
    refine q_iload dX12_goBell_216 rfl ?_
    refine qx_if_le (tgt := 232) dX12_goBell_218 (by decide) (fun c2 => ?_) (fun c2 => ?_)
    · skip
      refine q_iload_n dX12_goBell_232 rfl rfl ?_
      refine q_aload_n dX12_goBell_233 rfl rfl ?_
      refine q_getR (ci := 12) (k := 27) dX12_goBell_234 rfl (by decide) rfl tw1210 (by decide) qs188 qw188_27 (by decide) ?_
      refine q_iload_n dX12_goBell_237 rfl rfl ?_
      refine qx_iald (v := (mem 202 v2)) dX12_goBell_238 qs202 (o1 c1 c2).1 rfl ?_
      refine q_iload dX12_goBell_239 rfl ?_
      refine qx_isub dX12_goBell_241 (o1 c1 c2).2.1 ?_
      refine qx_iadd dX12_goBell_242 (o1 c1 c2).2.2.1 ?_
      refine qx_istore_n (L' := [(2, 188), (0, (v1 + ((mem 202 v2) - v4))), (0, v2), (0, v3), (0, v4), (0, v5)]) dX12_goBell_243 rfl rfl rfl rfl ?_
      refine qx_iinc (L' := [(2, 188), (0, (v1 + ((mem 202 v2) - v4))), (0, (v2 + 1)), (0, v3), (0, v4), (0, v5)]) dX12_goBell_244 rfl rfl rfl (o1 c1 c2).2.2.2 rfl ?_
      refine q_goto (tgt := 121) dX12_goBell_247 (by decide) ?_
      refine q_kill (L' := [(2, 188), (0, (v1 + ((mem 202 v2) - v4))), (0, (v2 + 1)), (4, 0), (0, v4), (0, v5)]) 3 rfl ?_
      refine q_kill (L' := [(2, 188), (0, (v1 + ((mem 202 v2) - v4))), (0, (v2 + 1)), (4, 0), (4, 0), (0, v5)]) 4 rfl ?_
      refine q_kill (L' := [(2, 188), (0, (v1 + ((mem 202 v2) - v4))), (0, (v2 + 1)), (4, 0), (4, 0), (4, 0)]) 5 rfl ?_
      exact l2 c1 c2
    · skip
      refine q_aload_n dX12_goBell_221 rfl rfl ?_
      refine q_getR (ci := 12) (k := 2) dX12_goBell_222 rfl (by decide) rfl tw1185 (by decide) qs188 qw188_2 (by decide) ?_
      refine q_iload_n dX12_goBell_225 rfl rfl ?_
      refine q_dup2 dX12_goBell_226 (fun h => by cases h) (fun h => by cases h) ?_
      refine qx_iald (v := (mem 190 v3)) dX12_goBell_227 qs190 (o3 c1 c2).1 rfl ?_
      refine q_iload dX12_goBell_228 rfl ?_
      refine qx_iadd dX12_goBell_230 (o3 c1 c2).2.1 ?_
      refine q_iast dX12_goBell_231 qs190 ((o3 c1 c2).1).1 ((o3 c1 c2).1).2 ?_
      refine q_iload_n dX12_goBell_232 rfl rfl ?_
      refine q_aload_n dX12_goBell_233 rfl rfl ?_
      refine q_getR (ci := 12) (k := 27) dX12_goBell_234 rfl (by decide) rfl tw1210 (by decide) qs188 qw188_27 (by decide) ?_
      refine q_iload_n dX12_goBell_237 rfl rfl ?_
      refine qx_iald (v := (mem 202 v2)) dX12_goBell_238 qs202 (o3 c1 c2).2.2.1 (q_up_c (by decide)) ?_
      refine q_iload dX12_goBell_239 rfl ?_
      refine qx_isub dX12_goBell_241 (o3 c1 c2).2.2.2.1 ?_
      refine qx_iadd dX12_goBell_242 (o3 c1 c2).2.2.2.2.1 ?_
      refine qx_istore_n (L' := [(2, 188), (0, (v1 + ((mem 202 v2) - v4))), (0, v2), (0, v3), (0, v4), (0, v5)]) dX12_goBell_243 rfl rfl rfl rfl ?_
      refine qx_iinc (L' := [(2, 188), (0, (v1 + ((mem 202 v2) - v4))), (0, (v2 + 1)), (0, v3), (0, v4), (0, v5)]) dX12_goBell_244 rfl rfl rfl (o3 c1 c2).2.2.2.2.2 rfl ?_
      refine q_goto (tgt := 121) dX12_goBell_247 (by decide) ?_
      refine q_kill (L' := [(2, 188), (0, (v1 + ((mem 202 v2) - v4))), (0, (v2 + 1)), (4, 0), (0, v4), (0, v5)]) 3 rfl ?_
      refine q_kill (L' := [(2, 188), (0, (v1 + ((mem 202 v2) - v4))), (0, (v2 + 1)), (4, 0), (4, 0), (0, v5)]) 4 rfl ?_
      refine q_kill (L' := [(2, 188), (0, (v1 + ((mem 202 v2) - v4))), (0, (v2 + 1)), (4, 0), (4, 0), (4, 0)]) 5 rfl ?_
      exact l4 c1 c2
  · skip
    refine q_aload_n dX12_goBell_179 rfl rfl ?_
    refine q_getR (ci := 12) (k := 8) dX12_goBell_180 rfl (by decide) rfl tw1191 (by decide) qs188 qw188_8 (by decide) ?_
    refine qx_bipush dX12_goBell_183 rfl rfl ?_
    refine q_iload_n dX12_goBell_185 rfl rfl ?_
    refine qx_imul dX12_goBell_186 (o5 c1).1 ?_
    refine q_aload_n dX12_goBell_187 rfl rfl ?_
    refine q_getR (ci := 12) (k := 2) dX12_goBell_188 rfl (by decide) rfl tw1185 (by decide) qs188 qw188_2 (by decide) ?_
    refine q_iload_n dX12_goBell_191 rfl rfl ?_
    refine qx_iald (v := (mem 190 v3)) dX12_goBell_192 qs190 (o5 c1).2.1 rfl ?_
    refine qx_iadd dX12_goBell_193 (o5 c1).2.2.1 ?_
    refine q_iload dX12_goBell_194 rfl ?_
    refine qx_iadd dX12_goBell_196 (o5 c1).2.2.2.1 ?_
    refine q_aload_n dX12_goBell_197 rfl rfl ?_
    refine q_getR (ci := 12) (k := 28) dX12_goBell_198 rfl (by decide) rfl tw1211 (by decide) qs188 qw188_28 (by decide) ?_
    refine qx_bipush dX12_goBell_201 rfl rfl ?_
    refine q_iload_n dX12_goBell_203 rfl rfl ?_
    refine qx_imul dX12_goBell_204 (o5 c1).2.2.2.2.1 ?_
    refine q_iload dX12_goBell_205 rfl ?_
    refine qx_iadd dX12_goBell_207 (o5 c1).2.2.2.2.2.1 ?_
    refine qx_iald (v := (mem 203 ((9 * v2) + v5))) dX12_goBell_208 qs203 (o5 c1).2.2.2.2.2.2.1 rfl ?_
    refine q_iast dX12_goBell_209 qs196 ((o5 c1).2.2.2.2.2.2.2.1).1 ((o5 c1).2.2.2.2.2.2.2.1).2 ?_
    refine qx_iinc (L' := [(2, 188), (0, v1), (0, v2), (0, v3), (0, v4), (0, (v5 + 1))]) dX12_goBell_210 rfl rfl rfl (o5 c1).2.2.2.2.2.2.2.2 rfl ?_
    refine q_goto (tgt := 172) dX12_goBell_213 (by decide) ?_
    exact l6 c1
theorem bkX12_goBell_252 {b : Int} {mem : qm} {Q : Int → qm → Prop}
    {v1 v2 : Int}
    (o1 : (mem 188 0) ≤ v2 → q_in32 ((mem 188 10) + 1) ∧ q_in32 ((mem 188 11) + v1))
    (l2 : (mem 188 0) ≤ v2 → Q v1 (q_up (q_up mem 188 10 ((mem 188 10) + 1)) 188 11 ((mem 188 11) + v1)))
    (o3 : v2 < (mem 188 0) → (0 ≤ v2 ∧ v2 < 9) ∧ q_in32 ((mem 195 v2) - 1) ∧ q_in32 (v2 + 1))
    (l4 : v2 < (mem 188 0) → q_At yX12_goBell cX12_goBell 6 (some .int) 2 0 0 (qK (q_rb b) Q) 252 [(2, 188), (0, v1), (0, (v2 + 1)), (4, 0), (4, 0), (4, 0)] [] (q_sh0, q_rb b, (q_up mem 195 v2 (max 0 ((mem 195 v2) - 1))))) :
    q_At yX12_goBell cX12_goBell 6 (some .int) 2 0 0 (qK (q_rb b) Q) 252 [(2, 188), (0, v1), (0, v2), (4, 0), (4, 0), (4, 0)] [] (q_sh0, q_rb b, mem) := by
  refine q_iload_n dX12_goBell_252 rfl rfl ?_
  refine q_aload_n dX12_goBell_253 rfl rfl ?_
  refine qx_getI (ci := 12) (k := 0) (v := (mem 188 0)) dX12_goBell_254 rfl rfl rfl tw1183 rfl qs188 rfl ?_
  refine qx_icmp_ge (tgt := 284) dX12_goBell_257 (by decide) (fun c1 => ?_) (fun c1 => ?_)
  · skip
    refine q_aload_n dX12_goBell_284 rfl rfl ?_
    refine q_dup dX12_goBell_285 (fun h => by cases h) ?_
    refine qx_getI (ci := 12) (k := 10) (v := (mem 188 10)) dX12_goBell_286 rfl rfl rfl tw1193 rfl qs188 rfl ?_
    refine qx_iconst dX12_goBell_289 rfl rfl ?_
    refine qx_iadd dX12_goBell_290 (o1 c1).1 ?_
    refine q_putI (ci := 12) (k := 10) (kI := 10) (ty := .int) dX12_goBell_291 rfl (by decide) rfl tw1193 rfl rfl rfl (fun _ => ⟨rfl, rfl⟩) qs188 ?_
    refine q_aload_n dX12_goBell_294 rfl rfl ?_
    refine q_dup dX12_goBell_295 (fun h => by cases h) ?_
    refine qx_getI (ci := 12) (k := 11) (v := (mem 188 11)) dX12_goBell_296 rfl rfl rfl tw1194 rfl qs188 (q_up_i (by decide)) ?_
    refine q_iload_n dX12_goBell_299 rfl rfl ?_
    refine qx_iadd dX12_goBell_300 (o1 c1).2 ?_
    refine q_putI (ci := 12) (k := 11) (kI := 11) (ty := .int) dX12_goBell_301 rfl (by decide) rfl tw1194 rfl rfl rfl (fun _ => ⟨rfl, rfl⟩) qs188 ?_
    refine q_iload_n dX12_goBell_304 rfl rfl ?_
    exact q_iret dX12_goBell_305 (qK_i (l2 c1))
  · skip
    refine q_aload_n dX12_goBell_260 rfl rfl ?_
    refine q_getR (ci := 12) (k := 7) dX12_goBell_261 rfl (by decide) rfl tw1190 (by decide) qs188 qw188_7 (by decide) ?_
    refine q_iload_n dX12_goBell_264 rfl rfl ?_
    refine qx_iconst dX12_goBell_265 rfl rfl ?_
    refine q_aload_n dX12_goBell_266 rfl rfl ?_
    refine q_getR (ci := 12) (k := 7) dX12_goBell_267 rfl (by decide) rfl tw1190 (by decide) qs188 qw188_7 (by decide) ?_
    refine q_iload_n dX12_goBell_270 rfl rfl ?_
    refine qx_iald (v := (mem 195 v2)) dX12_goBell_271 qs195 (o3 c1).1 rfl ?_
    refine qx_iconst dX12_goBell_272 rfl rfl ?_
    refine qx_isub dX12_goBell_273 (o3 c1).2.1 ?_
    refine q_max dX12_goBell_274 tw1458 tw597 tw15 tw598 (by decide) (Nat.le_of_ble_eq_true rfl) ?_
    refine q_iast dX12_goBell_277 qs195 ((o3 c1).1).1 ((o3 c1).1).2 ?_
    refine qx_iinc (L' := [(2, 188), (0, v1), (0, (v2 + 1)), (4, 0), (4, 0), (4, 0)]) dX12_goBell_278 rfl rfl rfl (o3 c1).2.2 rfl ?_
    refine q_goto (tgt := 252) dX12_goBell_281 (by decide) ?_
    exact l4 c1
theorem dX12_spring_0 : decode cX12_spring 0 = .ok (.aload_n 0, 1) := by decide +kernel
theorem dX12_spring_1 : decode cX12_spring 1 = .ok (.iconst 0, 1) := by decide +kernel
theorem dX12_spring_2 : decode cX12_spring 2 = .ok (.putfield 128, 3) := by decide +kernel
theorem dX12_spring_5 : decode cX12_spring 5 = .ok (.aload_n 0, 1) := by decide +kernel
theorem dX12_spring_6 : decode cX12_spring 6 = .ok (.iload_n 1, 1) := by decide +kernel
theorem dX12_spring_7 : decode cX12_spring 7 = .ok (.invokevirtual 225, 3) := by decide +kernel
theorem dX12_spring_10 : decode cX12_spring 10 = .ok (.ifCond .eq 20, 3) := by decide +kernel
theorem dX12_spring_13 : decode cX12_spring 13 = .ok (.iload_n 2, 1) := by decide +kernel
theorem dX12_spring_14 : decode cX12_spring 14 = .ok (.invokestatic 254, 3) := by decide +kernel
theorem dX12_spring_17 : decode cX12_spring 17 = .ok (.ifCond .eq 13, 3) := by decide +kernel
theorem dX12_spring_20 : decode cX12_spring 20 = .ok (.iload_n 3, 1) := by decide +kernel
theorem dX12_spring_21 : decode cX12_spring 21 = .ok (.iconst 1, 1) := by decide +kernel
theorem dX12_spring_22 : decode cX12_spring 22 = .ok (.bipush 60, 2) := by decide +kernel
theorem dX12_spring_24 : decode cX12_spring 24 = .ok (.invokestatic 137, 3) := by decide +kernel
theorem dX12_spring_27 : decode cX12_spring 27 = .ok (.ifCond .ne 5, 3) := by decide +kernel
theorem dX12_spring_30 : decode cX12_spring 30 = .ok (.iconst (-1), 1) := by decide +kernel
theorem dX12_spring_31 : decode cX12_spring 31 = .ok (.ireturn, 1) := by decide +kernel
theorem dX12_spring_32 : decode cX12_spring 32 = .ok (.aload_n 0, 1) := by decide +kernel
theorem dX12_spring_33 : decode cX12_spring 33 = .ok (.invokevirtual 257, 3) := by decide +kernel
theorem dX12_spring_36 : decode cX12_spring 36 = .ok (.iload_n 3, 1) := by decide +kernel
theorem dX12_spring_37 : decode cX12_spring 37 = .ok (.aload_n 0, 1) := by decide +kernel
theorem dX12_spring_38 : decode cX12_spring 38 = .ok (.getfield 9, 3) := by decide +kernel
theorem dX12_spring_41 : decode cX12_spring 41 = .ok (.iload_n 1, 1) := by decide +kernel
theorem dX12_spring_42 : decode cX12_spring 42 = .ok (.iaload, 1) := by decide +kernel
theorem dX12_spring_43 : decode cX12_spring 43 = .ok (.aload_n 0, 1) := by decide +kernel
theorem dX12_spring_44 : decode cX12_spring 44 = .ok (.getfield 13, 3) := by decide +kernel
theorem dX12_spring_47 : decode cX12_spring 47 = .ok (.iload_n 1, 1) := by decide +kernel
theorem dX12_spring_48 : decode cX12_spring 48 = .ok (.iaload, 1) := by decide +kernel
theorem dX12_spring_49 : decode cX12_spring 49 = .ok (.isub, 1) := by decide +kernel
theorem dX12_spring_50 : decode cX12_spring 50 = .ok (.invokestatic 234, 3) := by decide +kernel
theorem dX12_spring_53 : decode cX12_spring 53 = .ok (.istore 4, 2) := by decide +kernel
theorem dX12_spring_55 : decode cX12_spring 55 = .ok (.iconst 0, 1) := by decide +kernel
theorem dX12_spring_56 : decode cX12_spring 56 = .ok (.istore 5, 2) := by decide +kernel
theorem dX12_spring_58 : decode cX12_spring 58 = .ok (.iload 5, 2) := by decide +kernel
theorem dX12_spring_60 : decode cX12_spring 60 = .ok (.iload 4, 2) := by decide +kernel
theorem dX12_spring_62 : decode cX12_spring 62 = .ok (.if_icmp .ge 29, 3) := by decide +kernel
theorem dX12_spring_65 : decode cX12_spring 65 = .ok (.aload_n 0, 1) := by decide +kernel
theorem dX12_spring_66 : decode cX12_spring 66 = .ok (.getfield 31, 3) := by decide +kernel
theorem dX12_spring_69 : decode cX12_spring 69 = .ok (.bipush 60, 2) := by decide +kernel
theorem dX12_spring_71 : decode cX12_spring 71 = .ok (.iload_n 1, 1) := by decide +kernel
theorem dX12_spring_72 : decode cX12_spring 72 = .ok (.imul, 1) := by decide +kernel
theorem dX12_spring_73 : decode cX12_spring 73 = .ok (.aload_n 0, 1) := by decide +kernel
theorem dX12_spring_74 : decode cX12_spring 74 = .ok (.getfield 13, 3) := by decide +kernel
theorem dX12_spring_77 : decode cX12_spring 77 = .ok (.iload_n 1, 1) := by decide +kernel
theorem dX12_spring_78 : decode cX12_spring 78 = .ok (.iaload, 1) := by decide +kernel
theorem dX12_spring_79 : decode cX12_spring 79 = .ok (.iadd, 1) := by decide +kernel
theorem dX12_spring_80 : decode cX12_spring 80 = .ok (.iload 5, 2) := by decide +kernel
theorem dX12_spring_82 : decode cX12_spring 82 = .ok (.iadd, 1) := by decide +kernel
theorem dX12_spring_83 : decode cX12_spring 83 = .ok (.iload_n 2, 1) := by decide +kernel
theorem dX12_spring_84 : decode cX12_spring 84 = .ok (.iastore, 1) := by decide +kernel
theorem dX12_spring_85 : decode cX12_spring 85 = .ok (.iinc 5 1, 3) := by decide +kernel
theorem dX12_spring_88 : decode cX12_spring 88 = .ok (.goto (-30), 3) := by decide +kernel
theorem dX12_spring_91 : decode cX12_spring 91 = .ok (.aload_n 0, 1) := by decide +kernel
theorem dX12_spring_92 : decode cX12_spring 92 = .ok (.getfield 13, 3) := by decide +kernel
theorem dX12_spring_95 : decode cX12_spring 95 = .ok (.iload_n 1, 1) := by decide +kernel
theorem dX12_spring_96 : decode cX12_spring 96 = .ok (.dup2, 1) := by decide +kernel
theorem dX12_spring_97 : decode cX12_spring 97 = .ok (.iaload, 1) := by decide +kernel
theorem dX12_spring_98 : decode cX12_spring 98 = .ok (.iload 4, 2) := by decide +kernel
theorem dX12_spring_100 : decode cX12_spring 100 = .ok (.iadd, 1) := by decide +kernel
theorem dX12_spring_101 : decode cX12_spring 101 = .ok (.iastore, 1) := by decide +kernel
theorem dX12_spring_102 : decode cX12_spring 102 = .ok (.iload 4, 2) := by decide +kernel
theorem dX12_spring_104 : decode cX12_spring 104 = .ok (.ireturn, 1) := by decide +kernel
theorem bkX12_spring_0 {b : Int} {mem : qm} {Q : Int → qm → Prop}
    {j v w : Int}
    (o1 : q_in32 ((mem 188 0) - 1))
    {P4 : Int → qm → Prop}
    (l2 : (0 ≤ j ∧ j ≤ (mem 188 0) - 1) → (0 ≤ v ∧ v ≤ 6) → (1 ≤ w ∧ w ≤ 60) → q_Ev yX12_remember cX12_remember 2 none 2 0 0 [(2, 188)] (q_sh0, q_rb b, (q_up mem 188 17 0)) (qK (q_rb b) (P4)))
    (o3 : (0 ≤ j ∧ j ≤ (mem 188 0) - 1) → (0 ≤ v ∧ v ≤ 6) → (1 ≤ w ∧ w ≤ 60) → ∀ (r4 : Int), ∀ (m4 : qm), P4 r4 m4 → q_in32 r4 → (0 ≤ j ∧ j < 9) ∧ q_in32 ((m4 189 j) - (m4 190 j)))
    (l4 : (0 ≤ j ∧ j ≤ (mem 188 0) - 1) → (0 ≤ v ∧ v ≤ 6) → (1 ≤ w ∧ w ≤ 60) → ∀ (r4 : Int), ∀ (m4 : qm), P4 r4 m4 → q_in32 r4 → q_At yX12_spring cX12_spring 6 (some .int) 3 0 0 (qK (q_rb b) Q) 58 [(2, 188), (0, j), (0, v), (0, w), (0, (min w ((m4 189 j) - (m4 190 j)))), (0, 0)] [] (q_sh0, q_rb b, m4))
    (l5 : (0 ≤ j ∧ j ≤ (mem 188 0) - 1) → (0 ≤ v ∧ v ≤ 6) → ¬ (1 ≤ w ∧ w ≤ 60) → Q (-1) (q_up mem 188 17 0))
    (l6 : (0 ≤ j ∧ j ≤ (mem 188 0) - 1) → ¬ (0 ≤ v ∧ v ≤ 6) → Q (-1) (q_up mem 188 17 0))
    (l7 : ¬ (0 ≤ j ∧ j ≤ (mem 188 0) - 1) → Q (-1) (q_up mem 188 17 0)) :
    q_At yX12_spring cX12_spring 6 (some .int) 3 0 0 (qK (q_rb b) Q) 0 [(2, 188), (0, j), (0, v), (0, w), (4, 0), (4, 0)] [] (q_sh0, q_rb b, mem) := by
  refine q_aload_n dX12_spring_0 rfl rfl ?_
  refine qx_iconst dX12_spring_1 rfl rfl ?_
  refine q_putI (ci := 12) (k := 17) (kI := 17) (ty := .int) dX12_spring_2 rfl (by decide) rfl tw1200 rfl rfl rfl (fun _ => ⟨rfl, rfl⟩) qs188 ?_
  refine q_aload_n dX12_spring_5 rfl rfl ?_
  refine q_iload_n dX12_spring_6 rfl rfl ?_
  refine qx_invV (ci := 12) [(0, j)] [(0, j), (2, 188)] rfl qM_X12_isJar dX12_spring_7 tw1433 rfl qs188 rfl rfl rfl rfl (spX12_isJar (by first | exact (o1) | (simp only [q_up, Int.reduceEq, false_and, true_and, and_true, and_false, ite_false, ite_true, if_true, if_false]; exact (o1)))) (fun r1 m1 p1 q1 => ?_)
  obtain ⟨p1e, ⟨p1f, p1⟩ | ⟨p1f, p1⟩⟩ := p1
  · rw [p1e, p1f]
    simp only [q_up, Int.reduceEq, false_and, true_and, and_true, and_false, ite_false, ite_true, if_true, if_false] at p1
    refine qx_if_eq (tgt := 30) dX12_spring_10 (by decide) (fun z => absurd z (by decide)) (fun _ => ?_)
    refine q_iload_n dX12_spring_13 rfl rfl ?_
    refine qx_invS [(0, v)] [(0, v)] rfl qM_X12_isOrigin dX12_spring_14 tw1463 rfl rfl rfl rfl (spX12_isOrigin) (fun r2 m2 p2 q2 => ?_)
    obtain ⟨p2e, ⟨p2f, p2⟩ | ⟨p2f, p2⟩⟩ := p2
    · rw [p2e, p2f]
      refine qx_if_eq (tgt := 30) dX12_spring_17 (by decide) (fun z => absurd z (by decide)) (fun _ => ?_)
      refine q_iload_n dX12_spring_20 rfl rfl ?_
      refine qx_iconst dX12_spring_21 rfl rfl ?_
      refine qx_bipush dX12_spring_22 rfl rfl ?_
      refine qx_invS [(0, w), (0, 1), (0, 60)] [(0, 60), (0, 1), (0, w)] rfl qM_X12_in dX12_spring_24 tw1362 rfl rfl rfl rfl (spX12_in) (fun r3 m3 p3 q3 => ?_)
      obtain ⟨p3e, ⟨p3f, p3⟩ | ⟨p3f, p3⟩⟩ := p3
      · rw [p3e, p3f]
        refine qx_if_ne (tgt := 32) dX12_spring_27 (by decide) (fun _ => ?_) (fun z => absurd z (by decide))
        refine q_aload_n dX12_spring_32 rfl rfl ?_
        refine qx_invV (ci := 12) [] [(2, 188)] rfl qM_X12_remember dX12_spring_33 tw1466 rfl qs188 rfl rfl rfl rfl (l2 p1 p2 p3) (fun r4 m4 p4 q4 => ?_)
        refine q_iload_n dX12_spring_36 rfl rfl ?_
        refine q_aload_n dX12_spring_37 rfl rfl ?_
        refine q_getR (ci := 12) (k := 1) dX12_spring_38 rfl (by decide) rfl tw1184 (by decide) qs188 qw188_1 (by decide) ?_
        refine q_iload_n dX12_spring_41 rfl rfl ?_
        refine qx_iald (v := (m4 189 j)) dX12_spring_42 qs189 (o3 p1 p2 p3 r4 m4 p4 q4).1 rfl ?_
        refine q_aload_n dX12_spring_43 rfl rfl ?_
        refine q_getR (ci := 12) (k := 2) dX12_spring_44 rfl (by decide) rfl tw1185 (by decide) qs188 qw188_2 (by decide) ?_
        refine q_iload_n dX12_spring_47 rfl rfl ?_
        refine qx_iald (v := (m4 190 j)) dX12_spring_48 qs190 (o3 p1 p2 p3 r4 m4 p4 q4).1 rfl ?_
        refine qx_isub dX12_spring_49 (o3 p1 p2 p3 r4 m4 p4 q4).2 ?_
        refine q_min dX12_spring_50 tw1457 tw429 tw15 tw430 (by decide) (Nat.le_of_ble_eq_true rfl) ?_
        refine qx_istore (L' := [(2, 188), (0, j), (0, v), (0, w), (0, (min w ((m4 189 j) - (m4 190 j)))), (4, 0)]) dX12_spring_53 rfl rfl rfl ?_
        refine qx_iconst dX12_spring_55 rfl rfl ?_
        refine qx_istore (L' := [(2, 188), (0, j), (0, v), (0, w), (0, (min w ((m4 189 j) - (m4 190 j)))), (0, 0)]) dX12_spring_56 rfl rfl rfl ?_
        exact l4 p1 p2 p3 r4 m4 p4 q4
      · rw [p3e, p3f]
        refine qx_if_ne (tgt := 32) dX12_spring_27 (by decide) (fun z => absurd z (by decide)) (fun _ => ?_)
        refine qx_iconst dX12_spring_30 rfl rfl ?_
        exact q_iret dX12_spring_31 (qK_i (l5 p1 p2 p3))
    · rw [p2e, p2f]
      refine qx_if_eq (tgt := 30) dX12_spring_17 (by decide) (fun _ => ?_) (fun z => absurd z (by decide))
      refine qx_iconst dX12_spring_30 rfl rfl ?_
      exact q_iret dX12_spring_31 (qK_i (l6 p1 p2))
  · rw [p1e, p1f]
    simp only [q_up, Int.reduceEq, false_and, true_and, and_true, and_false, ite_false, ite_true, if_true, if_false] at p1
    refine qx_if_eq (tgt := 30) dX12_spring_10 (by decide) (fun _ => ?_) (fun z => absurd z (by decide))
    refine qx_iconst dX12_spring_30 rfl rfl ?_
    exact q_iret dX12_spring_31 (qK_i (l7 p1))
theorem bkX12_spring_58 {b : Int} {mem : qm} {Q : Int → qm → Prop}
    {j v w v4 v5 : Int}
    (o1 : v4 ≤ v5 → (0 ≤ j ∧ j < 9) ∧ q_in32 ((mem 190 j) + v4))
    (l2 : v4 ≤ v5 → Q v4 (q_up mem 190 j ((mem 190 j) + v4)))
    (o3 : v5 < v4 → q_in32 (60 * j) ∧ (0 ≤ j ∧ j < 9) ∧ q_in32 ((60 * j) + (mem 190 j)) ∧ q_in32 (((60 * j) + (mem 190 j)) + v5) ∧ (0 ≤ (((60 * j) + (mem 190 j)) + v5) ∧ (((60 * j) + (mem 190 j)) + v5) < 540) ∧ q_in32 (v5 + 1))
    (l4 : v5 < v4 → q_At yX12_spring cX12_spring 6 (some .int) 3 0 0 (qK (q_rb b) Q) 58 [(2, 188), (0, j), (0, v), (0, w), (0, v4), (0, (v5 + 1))] [] (q_sh0, q_rb b, (q_up mem 196 (((60 * j) + (mem 190 j)) + v5) v))) :
    q_At yX12_spring cX12_spring 6 (some .int) 3 0 0 (qK (q_rb b) Q) 58 [(2, 188), (0, j), (0, v), (0, w), (0, v4), (0, v5)] [] (q_sh0, q_rb b, mem) := by
  refine q_iload dX12_spring_58 rfl ?_
  refine q_iload dX12_spring_60 rfl ?_
  refine qx_icmp_ge (tgt := 91) dX12_spring_62 (by decide) (fun c1 => ?_) (fun c1 => ?_)
  · skip
    refine q_aload_n dX12_spring_91 rfl rfl ?_
    refine q_getR (ci := 12) (k := 2) dX12_spring_92 rfl (by decide) rfl tw1185 (by decide) qs188 qw188_2 (by decide) ?_
    refine q_iload_n dX12_spring_95 rfl rfl ?_
    refine q_dup2 dX12_spring_96 (fun h => by cases h) (fun h => by cases h) ?_
    refine qx_iald (v := (mem 190 j)) dX12_spring_97 qs190 (o1 c1).1 rfl ?_
    refine q_iload dX12_spring_98 rfl ?_
    refine qx_iadd dX12_spring_100 (o1 c1).2 ?_
    refine q_iast dX12_spring_101 qs190 ((o1 c1).1).1 ((o1 c1).1).2 ?_
    refine q_iload dX12_spring_102 rfl ?_
    exact q_iret dX12_spring_104 (qK_i (l2 c1))
  · skip
    refine q_aload_n dX12_spring_65 rfl rfl ?_
    refine q_getR (ci := 12) (k := 8) dX12_spring_66 rfl (by decide) rfl tw1191 (by decide) qs188 qw188_8 (by decide) ?_
    refine qx_bipush dX12_spring_69 rfl rfl ?_
    refine q_iload_n dX12_spring_71 rfl rfl ?_
    refine qx_imul dX12_spring_72 (o3 c1).1 ?_
    refine q_aload_n dX12_spring_73 rfl rfl ?_
    refine q_getR (ci := 12) (k := 2) dX12_spring_74 rfl (by decide) rfl tw1185 (by decide) qs188 qw188_2 (by decide) ?_
    refine q_iload_n dX12_spring_77 rfl rfl ?_
    refine qx_iald (v := (mem 190 j)) dX12_spring_78 qs190 (o3 c1).2.1 rfl ?_
    refine qx_iadd dX12_spring_79 (o3 c1).2.2.1 ?_
    refine q_iload dX12_spring_80 rfl ?_
    refine qx_iadd dX12_spring_82 (o3 c1).2.2.2.1 ?_
    refine q_iload_n dX12_spring_83 rfl rfl ?_
    refine q_iast dX12_spring_84 qs196 ((o3 c1).2.2.2.2.1).1 ((o3 c1).2.2.2.2.1).2 ?_
    refine qx_iinc (L' := [(2, 188), (0, j), (0, v), (0, w), (0, v4), (0, (v5 + 1))]) dX12_spring_85 rfl rfl rfl (o3 c1).2.2.2.2.2 rfl ?_
    refine q_goto (tgt := 58) dX12_spring_88 (by decide) ?_
    exact l4 c1
theorem dX12_refusal_0 : decode cX12_refusal 0 = .ok (.aload_n 0, 1) := by decide +kernel
theorem dX12_refusal_1 : decode cX12_refusal 1 = .ok (.iload_n 1, 1) := by decide +kernel
theorem dX12_refusal_2 : decode cX12_refusal 2 = .ok (.invokevirtual 225, 3) := by decide +kernel
theorem dX12_refusal_5 : decode cX12_refusal 5 = .ok (.ifCond .eq 21, 3) := by decide +kernel
theorem dX12_refusal_8 : decode cX12_refusal 8 = .ok (.aload_n 0, 1) := by decide +kernel
theorem dX12_refusal_9 : decode cX12_refusal 9 = .ok (.iload_n 2, 1) := by decide +kernel
theorem dX12_refusal_10 : decode cX12_refusal 10 = .ok (.invokevirtual 225, 3) := by decide +kernel
theorem dX12_refusal_13 : decode cX12_refusal 13 = .ok (.ifCond .eq 13, 3) := by decide +kernel
theorem dX12_refusal_16 : decode cX12_refusal 16 = .ok (.iload_n 1, 1) := by decide +kernel
theorem dX12_refusal_17 : decode cX12_refusal 17 = .ok (.iload_n 2, 1) := by decide +kernel
theorem dX12_refusal_18 : decode cX12_refusal 18 = .ok (.if_icmp .eq 8, 3) := by decide +kernel
theorem dX12_refusal_21 : decode cX12_refusal 21 = .ok (.iload_n 3, 1) := by decide +kernel
theorem dX12_refusal_22 : decode cX12_refusal 22 = .ok (.iconst 1, 1) := by decide +kernel
theorem dX12_refusal_23 : decode cX12_refusal 23 = .ok (.if_icmp .ge 5, 3) := by decide +kernel
theorem dX12_refusal_26 : decode cX12_refusal 26 = .ok (.iconst (-1), 1) := by decide +kernel
theorem dX12_refusal_27 : decode cX12_refusal 27 = .ok (.ireturn, 1) := by decide +kernel
theorem dX12_refusal_28 : decode cX12_refusal 28 = .ok (.aload_n 0, 1) := by decide +kernel
theorem dX12_refusal_29 : decode cX12_refusal 29 = .ok (.getfield 13, 3) := by decide +kernel
theorem dX12_refusal_32 : decode cX12_refusal 32 = .ok (.iload_n 1, 1) := by decide +kernel
theorem dX12_refusal_33 : decode cX12_refusal 33 = .ok (.iaload, 1) := by decide +kernel
theorem dX12_refusal_34 : decode cX12_refusal 34 = .ok (.iload_n 3, 1) := by decide +kernel
theorem dX12_refusal_35 : decode cX12_refusal 35 = .ok (.if_icmp .ge 6, 3) := by decide +kernel
theorem dX12_refusal_38 : decode cX12_refusal 38 = .ok (.bipush (-2), 2) := by decide +kernel
theorem dX12_refusal_40 : decode cX12_refusal 40 = .ok (.ireturn, 1) := by decide +kernel
theorem dX12_refusal_41 : decode cX12_refusal 41 = .ok (.aload_n 0, 1) := by decide +kernel
theorem dX12_refusal_42 : decode cX12_refusal 42 = .ok (.getfield 9, 3) := by decide +kernel
theorem dX12_refusal_45 : decode cX12_refusal 45 = .ok (.iload_n 2, 1) := by decide +kernel
theorem dX12_refusal_46 : decode cX12_refusal 46 = .ok (.iaload, 1) := by decide +kernel
theorem dX12_refusal_47 : decode cX12_refusal 47 = .ok (.aload_n 0, 1) := by decide +kernel
theorem dX12_refusal_48 : decode cX12_refusal 48 = .ok (.getfield 13, 3) := by decide +kernel
theorem dX12_refusal_51 : decode cX12_refusal 51 = .ok (.iload_n 2, 1) := by decide +kernel
theorem dX12_refusal_52 : decode cX12_refusal 52 = .ok (.iaload, 1) := by decide +kernel
theorem dX12_refusal_53 : decode cX12_refusal 53 = .ok (.isub, 1) := by decide +kernel
theorem dX12_refusal_54 : decode cX12_refusal 54 = .ok (.iload_n 3, 1) := by decide +kernel
theorem dX12_refusal_55 : decode cX12_refusal 55 = .ok (.if_icmp .ge 8, 3) := by decide +kernel
theorem dX12_refusal_58 : decode cX12_refusal 58 = .ok (.bipush (-3), 2) := by decide +kernel
theorem dX12_refusal_60 : decode cX12_refusal 60 = .ok (.goto 4, 3) := by decide +kernel
theorem dX12_refusal_63 : decode cX12_refusal 63 = .ok (.iconst 0, 1) := by decide +kernel
theorem dX12_refusal_64 : decode cX12_refusal 64 = .ok (.ireturn, 1) := by decide +kernel
theorem bkX12_refusal_0 {b : Int} {mem : qm} {Q : Int → qm → Prop}
    {x y w : Int}
    (o1 : q_in32 ((mem 188 0) - 1))
    (l2 : (0 ≤ x ∧ x ≤ (mem 188 0) - 1) → (0 ≤ y ∧ y ≤ (mem 188 0) - 1) → x = y → Q (-1) mem)
    (o3 : (0 ≤ x ∧ x ≤ (mem 188 0) - 1) → (0 ≤ y ∧ y ≤ (mem 188 0) - 1) → x ≠ y → 1 ≤ w → (0 ≤ x ∧ x < 9))
    (o4 : (0 ≤ x ∧ x ≤ (mem 188 0) - 1) → (0 ≤ y ∧ y ≤ (mem 188 0) - 1) → x ≠ y → 1 ≤ w → w ≤ (mem 190 x) → (0 ≤ y ∧ y < 9) ∧ q_in32 ((mem 189 y) - (mem 190 y)))
    (l5 : (0 ≤ x ∧ x ≤ (mem 188 0) - 1) → (0 ≤ y ∧ y ≤ (mem 188 0) - 1) → x ≠ y → 1 ≤ w → w ≤ (mem 190 x) → w ≤ ((mem 189 y) - (mem 190 y)) → Q 0 mem)
    (l6 : (0 ≤ x ∧ x ≤ (mem 188 0) - 1) → (0 ≤ y ∧ y ≤ (mem 188 0) - 1) → x ≠ y → 1 ≤ w → w ≤ (mem 190 x) → ((mem 189 y) - (mem 190 y)) < w → Q (-3) mem)
    (l7 : (0 ≤ x ∧ x ≤ (mem 188 0) - 1) → (0 ≤ y ∧ y ≤ (mem 188 0) - 1) → x ≠ y → 1 ≤ w → (mem 190 x) < w → Q (-2) mem)
    (l8 : (0 ≤ x ∧ x ≤ (mem 188 0) - 1) → (0 ≤ y ∧ y ≤ (mem 188 0) - 1) → x ≠ y → w < 1 → Q (-1) mem)
    (l9 : (0 ≤ x ∧ x ≤ (mem 188 0) - 1) → ¬ (0 ≤ y ∧ y ≤ (mem 188 0) - 1) → Q (-1) mem)
    (l10 : ¬ (0 ≤ x ∧ x ≤ (mem 188 0) - 1) → Q (-1) mem) :
    q_At yX12_refusal cX12_refusal 4 (some .int) 3 0 0 (qK (q_rb b) Q) 0 [(2, 188), (0, x), (0, y), (0, w)] [] (q_sh0, q_rb b, mem) := by
  refine q_aload_n dX12_refusal_0 rfl rfl ?_
  refine q_iload_n dX12_refusal_1 rfl rfl ?_
  refine qx_invV (ci := 12) [(0, x)] [(0, x), (2, 188)] rfl qM_X12_isJar dX12_refusal_2 tw1433 rfl qs188 rfl rfl rfl rfl (spX12_isJar (o1)) (fun r1 m1 p1 q1 => ?_)
  obtain ⟨p1e, ⟨p1f, p1⟩ | ⟨p1f, p1⟩⟩ := p1
  · rw [p1e, p1f]
    refine qx_if_eq (tgt := 26) dX12_refusal_5 (by decide) (fun z => absurd z (by decide)) (fun _ => ?_)
    refine q_aload_n dX12_refusal_8 rfl rfl ?_
    refine q_iload_n dX12_refusal_9 rfl rfl ?_
    refine qx_invV (ci := 12) [(0, y)] [(0, y), (2, 188)] rfl qM_X12_isJar dX12_refusal_10 tw1433 rfl qs188 rfl rfl rfl rfl (spX12_isJar (o1)) (fun r2 m2 p2 q2 => ?_)
    obtain ⟨p2e, ⟨p2f, p2⟩ | ⟨p2f, p2⟩⟩ := p2
    · rw [p2e, p2f]
      refine qx_if_eq (tgt := 26) dX12_refusal_13 (by decide) (fun z => absurd z (by decide)) (fun _ => ?_)
      refine q_iload_n dX12_refusal_16 rfl rfl ?_
      refine q_iload_n dX12_refusal_17 rfl rfl ?_
      refine qx_icmp_eq (tgt := 26) dX12_refusal_18 (by decide) (fun c3 => ?_) (fun c3 => ?_)
      · skip
        refine qx_iconst dX12_refusal_26 rfl rfl ?_
        exact q_iret dX12_refusal_27 (qK_i (l2 p1 p2 c3))
      · skip
        refine q_iload_n dX12_refusal_21 rfl rfl ?_
        refine qx_iconst dX12_refusal_22 rfl rfl ?_
        refine qx_icmp_ge (tgt := 28) dX12_refusal_23 (by decide) (fun c4 => ?_) (fun c4 => ?_)
        · skip
          refine q_aload_n dX12_refusal_28 rfl rfl ?_
          refine q_getR (ci := 12) (k := 2) dX12_refusal_29 rfl (by decide) rfl tw1185 (by decide) qs188 qw188_2 (by decide) ?_
          refine q_iload_n dX12_refusal_32 rfl rfl ?_
          refine qx_iald (v := (mem 190 x)) dX12_refusal_33 qs190 (o3 p1 p2 c3 c4) rfl ?_
          refine q_iload_n dX12_refusal_34 rfl rfl ?_
          refine qx_icmp_ge (tgt := 41) dX12_refusal_35 (by decide) (fun c5 => ?_) (fun c5 => ?_)
          · skip
            refine q_aload_n dX12_refusal_41 rfl rfl ?_
            refine q_getR (ci := 12) (k := 1) dX12_refusal_42 rfl (by decide) rfl tw1184 (by decide) qs188 qw188_1 (by decide) ?_
            refine q_iload_n dX12_refusal_45 rfl rfl ?_
            refine qx_iald (v := (mem 189 y)) dX12_refusal_46 qs189 (o4 p1 p2 c3 c4 c5).1 rfl ?_
            refine q_aload_n dX12_refusal_47 rfl rfl ?_
            refine q_getR (ci := 12) (k := 2) dX12_refusal_48 rfl (by decide) rfl tw1185 (by decide) qs188 qw188_2 (by decide) ?_
            refine q_iload_n dX12_refusal_51 rfl rfl ?_
            refine qx_iald (v := (mem 190 y)) dX12_refusal_52 qs190 (o4 p1 p2 c3 c4 c5).1 rfl ?_
            refine qx_isub dX12_refusal_53 (o4 p1 p2 c3 c4 c5).2 ?_
            refine q_iload_n dX12_refusal_54 rfl rfl ?_
            refine qx_icmp_ge (tgt := 63) dX12_refusal_55 (by decide) (fun c6 => ?_) (fun c6 => ?_)
            · skip
              refine qx_iconst dX12_refusal_63 rfl rfl ?_
              exact q_iret dX12_refusal_64 (qK_i (l5 p1 p2 c3 c4 c5 c6))
            · skip
              refine qx_bipush dX12_refusal_58 rfl rfl ?_
              refine q_goto (tgt := 64) dX12_refusal_60 (by decide) ?_
              exact q_iret dX12_refusal_64 (qK_i (l6 p1 p2 c3 c4 c5 c6))
          · skip
            refine qx_bipush dX12_refusal_38 rfl rfl ?_
            exact q_iret dX12_refusal_40 (qK_i (l7 p1 p2 c3 c4 c5))
        · skip
          refine qx_iconst dX12_refusal_26 rfl rfl ?_
          exact q_iret dX12_refusal_27 (qK_i (l8 p1 p2 c3 c4))
    · rw [p2e, p2f]
      refine qx_if_eq (tgt := 26) dX12_refusal_13 (by decide) (fun _ => ?_) (fun z => absurd z (by decide))
      refine qx_iconst dX12_refusal_26 rfl rfl ?_
      exact q_iret dX12_refusal_27 (qK_i (l9 p1 p2))
  · rw [p1e, p1f]
    refine qx_if_eq (tgt := 26) dX12_refusal_5 (by decide) (fun _ => ?_) (fun z => absurd z (by decide))
    refine qx_iconst dX12_refusal_26 rfl rfl ?_
    exact q_iret dX12_refusal_27 (qK_i (l10 p1))
theorem dX12_make_0 : decode cX12_make 0 = .ok (.aload_n 0, 1) := by decide +kernel
theorem dX12_make_1 : decode cX12_make 1 = .ok (.iload_n 1, 1) := by decide +kernel
theorem dX12_make_2 : decode cX12_make 2 = .ok (.iload_n 2, 1) := by decide +kernel
theorem dX12_make_3 : decode cX12_make 3 = .ok (.iload_n 3, 1) := by decide +kernel
theorem dX12_make_4 : decode cX12_make 4 = .ok (.invokevirtual 260, 3) := by decide +kernel
theorem dX12_make_7 : decode cX12_make 7 = .ok (.aload_n 0, 1) := by decide +kernel
theorem dX12_make_8 : decode cX12_make 8 = .ok (.getfield 19, 3) := by decide +kernel
theorem dX12_make_11 : decode cX12_make 11 = .ok (.iload_n 1, 1) := by decide +kernel
theorem dX12_make_12 : decode cX12_make 12 = .ok (.iaload, 1) := by decide +kernel
theorem dX12_make_13 : decode cX12_make 13 = .ok (.istore 4, 2) := by decide +kernel
theorem dX12_make_15 : decode cX12_make 15 = .ok (.aload_n 0, 1) := by decide +kernel
theorem dX12_make_16 : decode cX12_make 16 = .ok (.getfield 19, 3) := by decide +kernel
theorem dX12_make_19 : decode cX12_make 19 = .ok (.iload_n 2, 1) := by decide +kernel
theorem dX12_make_20 : decode cX12_make 20 = .ok (.iaload, 1) := by decide +kernel
theorem dX12_make_21 : decode cX12_make 21 = .ok (.istore 5, 2) := by decide +kernel
theorem dX12_make_23 : decode cX12_make 23 = .ok (.aload_n 0, 1) := by decide +kernel
theorem dX12_make_24 : decode cX12_make 24 = .ok (.getfield 34, 3) := by decide +kernel
theorem dX12_make_27 : decode cX12_make 27 = .ok (.bipush 6, 2) := by decide +kernel
theorem dX12_make_29 : decode cX12_make 29 = .ok (.iload 4, 2) := by decide +kernel
theorem dX12_make_31 : decode cX12_make 31 = .ok (.imul, 1) := by decide +kernel
theorem dX12_make_32 : decode cX12_make 32 = .ok (.iload 5, 2) := by decide +kernel
theorem dX12_make_34 : decode cX12_make 34 = .ok (.iadd, 1) := by decide +kernel
theorem dX12_make_35 : decode cX12_make 35 = .ok (.iconst 0, 1) := by decide +kernel
theorem dX12_make_36 : decode cX12_make 36 = .ok (.aload_n 0, 1) := by decide +kernel
theorem dX12_make_37 : decode cX12_make 37 = .ok (.getfield 34, 3) := by decide +kernel
theorem dX12_make_40 : decode cX12_make 40 = .ok (.bipush 6, 2) := by decide +kernel
theorem dX12_make_42 : decode cX12_make 42 = .ok (.iload 4, 2) := by decide +kernel
theorem dX12_make_44 : decode cX12_make 44 = .ok (.imul, 1) := by decide +kernel
theorem dX12_make_45 : decode cX12_make 45 = .ok (.iload 5, 2) := by decide +kernel
theorem dX12_make_47 : decode cX12_make 47 = .ok (.iadd, 1) := by decide +kernel
theorem dX12_make_48 : decode cX12_make 48 = .ok (.iaload, 1) := by decide +kernel
theorem dX12_make_49 : decode cX12_make 49 = .ok (.iload_n 3, 1) := by decide +kernel
theorem dX12_make_50 : decode cX12_make 50 = .ok (.isub, 1) := by decide +kernel
theorem dX12_make_51 : decode cX12_make 51 = .ok (.invokestatic 240, 3) := by decide +kernel
theorem dX12_make_54 : decode cX12_make 54 = .ok (.iastore, 1) := by decide +kernel
theorem dX12_make_55 : decode cX12_make 55 = .ok (.return_, 1) := by decide +kernel
theorem bkX12_make_0 {b : Int} {mem : qm} {Q : Int → qm → Prop}
    {x y w : Int}
    {P1 : Int → qm → Prop}
    (l1 : q_Ev yX12_move cX12_move 5 none 2 0 0 [(2, 188), (0, x), (0, y), (0, w)] (q_sh0, q_rb b, mem) (qK (q_rb b) (P1)))
    (o2 : ∀ (r1 : Int), ∀ (m1 : qm), P1 r1 m1 → q_in32 r1 → (0 ≤ x ∧ x < 9) ∧ (0 ≤ y ∧ y < 9) ∧ q_in32 (6 * (m1 192 x)) ∧ q_in32 ((6 * (m1 192 x)) + (m1 192 y)) ∧ (0 ≤ ((6 * (m1 192 x)) + (m1 192 y)) ∧ ((6 * (m1 192 x)) + (m1 192 y)) < 36) ∧ q_in32 ((m1 197 ((6 * (m1 192 x)) + (m1 192 y))) - w))
    (l3 : ∀ (r1 : Int), ∀ (m1 : qm), P1 r1 m1 → q_in32 r1 → Q 0 (q_up m1 197 ((6 * (m1 192 x)) + (m1 192 y)) (max 0 ((m1 197 ((6 * (m1 192 x)) + (m1 192 y))) - w)))) :
    q_At yX12_make cX12_make 6 none 3 0 0 (qK (q_rb b) Q) 0 [(2, 188), (0, x), (0, y), (0, w), (4, 0), (4, 0)] [] (q_sh0, q_rb b, mem) := by
  refine q_aload_n dX12_make_0 rfl rfl ?_
  refine q_iload_n dX12_make_1 rfl rfl ?_
  refine q_iload_n dX12_make_2 rfl rfl ?_
  refine q_iload_n dX12_make_3 rfl rfl ?_
  refine qx_invV (ci := 12) [(0, x), (0, y), (0, w)] [(0, w), (0, y), (0, x), (2, 188)] rfl qM_X12_move dX12_make_4 tw1486 rfl qs188 rfl rfl rfl rfl (l1) (fun r1 m1 p1 q1 => ?_)
  refine q_aload_n dX12_make_7 rfl rfl ?_
  refine q_getR (ci := 12) (k := 4) dX12_make_8 rfl (by decide) rfl tw1187 (by decide) qs188 qw188_4 (by decide) ?_
  refine q_iload_n dX12_make_11 rfl rfl ?_
  refine qx_iald (v := (m1 192 x)) dX12_make_12 qs192 (o2 r1 m1 p1 q1).1 rfl ?_
  refine qx_istore (L' := [(2, 188), (0, x), (0, y), (0, w), (0, (m1 192 x)), (4, 0)]) dX12_make_13 rfl rfl rfl ?_
  refine q_aload_n dX12_make_15 rfl rfl ?_
  refine q_getR (ci := 12) (k := 4) dX12_make_16 rfl (by decide) rfl tw1187 (by decide) qs188 qw188_4 (by decide) ?_
  refine q_iload_n dX12_make_19 rfl rfl ?_
  refine qx_iald (v := (m1 192 y)) dX12_make_20 qs192 (o2 r1 m1 p1 q1).2.1 rfl ?_
  refine qx_istore (L' := [(2, 188), (0, x), (0, y), (0, w), (0, (m1 192 x)), (0, (m1 192 y))]) dX12_make_21 rfl rfl rfl ?_
  refine q_aload_n dX12_make_23 rfl rfl ?_
  refine q_getR (ci := 12) (k := 9) dX12_make_24 rfl (by decide) rfl tw1192 (by decide) qs188 qw188_9 (by decide) ?_
  refine qx_bipush dX12_make_27 rfl rfl ?_
  refine q_iload dX12_make_29 rfl ?_
  refine qx_imul dX12_make_31 (o2 r1 m1 p1 q1).2.2.1 ?_
  refine q_iload dX12_make_32 rfl ?_
  refine qx_iadd dX12_make_34 (o2 r1 m1 p1 q1).2.2.2.1 ?_
  refine qx_iconst dX12_make_35 rfl rfl ?_
  refine q_aload_n dX12_make_36 rfl rfl ?_
  refine q_getR (ci := 12) (k := 9) dX12_make_37 rfl (by decide) rfl tw1192 (by decide) qs188 qw188_9 (by decide) ?_
  refine qx_bipush dX12_make_40 rfl rfl ?_
  refine q_iload dX12_make_42 rfl ?_
  refine qx_imul dX12_make_44 (o2 r1 m1 p1 q1).2.2.1 ?_
  refine q_iload dX12_make_45 rfl ?_
  refine qx_iadd dX12_make_47 (o2 r1 m1 p1 q1).2.2.2.1 ?_
  refine qx_iald (v := (m1 197 ((6 * (m1 192 x)) + (m1 192 y)))) dX12_make_48 qs197 (o2 r1 m1 p1 q1).2.2.2.2.1 rfl ?_
  refine q_iload_n dX12_make_49 rfl rfl ?_
  refine qx_isub dX12_make_50 (o2 r1 m1 p1 q1).2.2.2.2.2 ?_
  refine q_max dX12_make_51 tw1458 tw597 tw15 tw598 (by decide) (Nat.le_of_ble_eq_true rfl) ?_
  refine q_iast dX12_make_54 qs197 ((o2 r1 m1 p1 q1).2.2.2.2.1).1 ((o2 r1 m1 p1 q1).2.2.2.2.1).2 ?_
  exact q_vret dX12_make_55 (qK_i (l3 r1 m1 p1 q1))
theorem dX12_pour_0 : decode cX12_pour 0 = .ok (.aload_n 0, 1) := by decide +kernel
theorem dX12_pour_1 : decode cX12_pour 1 = .ok (.iconst 0, 1) := by decide +kernel
theorem dX12_pour_2 : decode cX12_pour 2 = .ok (.putfield 128, 3) := by decide +kernel
theorem dX12_pour_5 : decode cX12_pour 5 = .ok (.aload_n 0, 1) := by decide +kernel
theorem dX12_pour_6 : decode cX12_pour 6 = .ok (.iload_n 1, 1) := by decide +kernel
theorem dX12_pour_7 : decode cX12_pour 7 = .ok (.iload_n 2, 1) := by decide +kernel
theorem dX12_pour_8 : decode cX12_pour 8 = .ok (.iload_n 3, 1) := by decide +kernel
theorem dX12_pour_9 : decode cX12_pour 9 = .ok (.invokevirtual 264, 3) := by decide +kernel
theorem dX12_pour_12 : decode cX12_pour 12 = .ok (.istore 4, 2) := by decide +kernel
theorem dX12_pour_14 : decode cX12_pour 14 = .ok (.iload 4, 2) := by decide +kernel
theorem dX12_pour_16 : decode cX12_pour 16 = .ok (.ifCond .ge 6, 3) := by decide +kernel
theorem dX12_pour_19 : decode cX12_pour 19 = .ok (.iload 4, 2) := by decide +kernel
theorem dX12_pour_21 : decode cX12_pour 21 = .ok (.ireturn, 1) := by decide +kernel
theorem dX12_pour_22 : decode cX12_pour 22 = .ok (.aload_n 0, 1) := by decide +kernel
theorem dX12_pour_23 : decode cX12_pour 23 = .ok (.invokevirtual 257, 3) := by decide +kernel
theorem dX12_pour_26 : decode cX12_pour 26 = .ok (.aload_n 0, 1) := by decide +kernel
theorem dX12_pour_27 : decode cX12_pour 27 = .ok (.iload_n 1, 1) := by decide +kernel
theorem dX12_pour_28 : decode cX12_pour 28 = .ok (.iload_n 2, 1) := by decide +kernel
theorem dX12_pour_29 : decode cX12_pour 29 = .ok (.iload_n 3, 1) := by decide +kernel
theorem dX12_pour_30 : decode cX12_pour 30 = .ok (.invokevirtual 267, 3) := by decide +kernel
theorem dX12_pour_33 : decode cX12_pour 33 = .ok (.iload_n 3, 1) := by decide +kernel
theorem dX12_pour_34 : decode cX12_pour 34 = .ok (.ireturn, 1) := by decide +kernel
theorem bkX12_pour_0 {b : Int} {mem : qm} {Q : Int → qm → Prop}
    {x y w : Int}
    {P1 : Int → qm → Prop}
    (l1 : q_Ev yX12_refusal cX12_refusal 4 (some .int) 3 0 0 [(2, 188), (0, x), (0, y), (0, w)] (q_sh0, q_rb b, (q_up mem 188 17 0)) (qK (q_rb b) (P1)))
    {P3 : Int → qm → Int → qm → Prop}
    (l2 : ∀ (r1 : Int), ∀ (m1 : qm), P1 r1 m1 → q_in32 r1 → 0 ≤ r1 → q_Ev yX12_remember cX12_remember 2 none 2 0 0 [(2, 188)] (q_sh0, q_rb b, m1) (qK (q_rb b) (P3 r1 m1)))
    {P4 : Int → qm → Int → qm → Int → qm → Prop}
    (l3 : ∀ (r1 : Int), ∀ (m1 : qm), P1 r1 m1 → q_in32 r1 → 0 ≤ r1 → ∀ (r3 : Int), ∀ (m3 : qm), P3 r1 m1 r3 m3 → q_in32 r3 → q_Ev yX12_make cX12_make 6 none 3 0 0 [(2, 188), (0, x), (0, y), (0, w)] (q_sh0, q_rb b, m3) (qK (q_rb b) (P4 r1 m1 r3 m3)))
    (l4 : ∀ (r1 : Int), ∀ (m1 : qm), P1 r1 m1 → q_in32 r1 → 0 ≤ r1 → ∀ (r3 : Int), ∀ (m3 : qm), P3 r1 m1 r3 m3 → q_in32 r3 → ∀ (r4 : Int), ∀ (m4 : qm), P4 r1 m1 r3 m3 r4 m4 → q_in32 r4 → Q w m4)
    (l5 : ∀ (r1 : Int), ∀ (m1 : qm), P1 r1 m1 → q_in32 r1 → r1 < 0 → Q r1 m1) :
    q_At yX12_pour cX12_pour 5 (some .int) 4 0 0 (qK (q_rb b) Q) 0 [(2, 188), (0, x), (0, y), (0, w), (4, 0)] [] (q_sh0, q_rb b, mem) := by
  refine q_aload_n dX12_pour_0 rfl rfl ?_
  refine qx_iconst dX12_pour_1 rfl rfl ?_
  refine q_putI (ci := 12) (k := 17) (kI := 17) (ty := .int) dX12_pour_2 rfl (by decide) rfl tw1200 rfl rfl rfl (fun _ => ⟨rfl, rfl⟩) qs188 ?_
  refine q_aload_n dX12_pour_5 rfl rfl ?_
  refine q_iload_n dX12_pour_6 rfl rfl ?_
  refine q_iload_n dX12_pour_7 rfl rfl ?_
  refine q_iload_n dX12_pour_8 rfl rfl ?_
  refine qx_invV (ci := 12) [(0, x), (0, y), (0, w)] [(0, w), (0, y), (0, x), (2, 188)] rfl qM_X12_refusal dX12_pour_9 tw1478 rfl qs188 rfl rfl rfl rfl (l1) (fun r1 m1 p1 q1 => ?_)
  refine qx_istore (L' := [(2, 188), (0, x), (0, y), (0, w), (0, r1)]) dX12_pour_12 rfl rfl rfl ?_
  refine q_iload dX12_pour_14 rfl ?_
  refine qx_if_ge (tgt := 22) dX12_pour_16 (by decide) (fun c2 => ?_) (fun c2 => ?_)
  · skip
    refine q_aload_n dX12_pour_22 rfl rfl ?_
    refine qx_invV (ci := 12) [] [(2, 188)] rfl qM_X12_remember dX12_pour_23 tw1466 rfl qs188 rfl rfl rfl rfl (l2 r1 m1 p1 q1 c2) (fun r3 m3 p3 q3 => ?_)
    refine q_aload_n dX12_pour_26 rfl rfl ?_
    refine q_iload_n dX12_pour_27 rfl rfl ?_
    refine q_iload_n dX12_pour_28 rfl rfl ?_
    refine q_iload_n dX12_pour_29 rfl rfl ?_
    refine qx_invV (ci := 12) [(0, x), (0, y), (0, w)] [(0, w), (0, y), (0, x), (2, 188)] rfl qM_X12_make dX12_pour_30 tw1482 rfl qs188 rfl rfl rfl rfl (l3 r1 m1 p1 q1 c2 r3 m3 p3 q3) (fun r4 m4 p4 q4 => ?_)
    refine q_iload_n dX12_pour_33 rfl rfl ?_
    exact q_iret dX12_pour_34 (qK_i (l4 r1 m1 p1 q1 c2 r3 m3 p3 q3 r4 m4 p4 q4))
  · skip
    refine q_iload dX12_pour_19 rfl ?_
    exact q_iret dX12_pour_21 (qK_i (l5 r1 m1 p1 q1 c2))
theorem dX12_sumOf_0 : decode cX12_sumOf 0 = .ok (.iconst 0, 1) := by decide +kernel
theorem dX12_sumOf_1 : decode cX12_sumOf 1 = .ok (.istore_n 2, 1) := by decide +kernel
theorem dX12_sumOf_2 : decode cX12_sumOf 2 = .ok (.iconst 0, 1) := by decide +kernel
theorem dX12_sumOf_3 : decode cX12_sumOf 3 = .ok (.istore_n 3, 1) := by decide +kernel
theorem dX12_sumOf_4 : decode cX12_sumOf 4 = .ok (.iload_n 3, 1) := by decide +kernel
theorem dX12_sumOf_5 : decode cX12_sumOf 5 = .ok (.aload_n 0, 1) := by decide +kernel
theorem dX12_sumOf_6 : decode cX12_sumOf 6 = .ok (.getfield 134, 3) := by decide +kernel
theorem dX12_sumOf_9 : decode cX12_sumOf 9 = .ok (.if_icmp .ge 15, 3) := by decide +kernel
theorem dX12_sumOf_12 : decode cX12_sumOf 12 = .ok (.iload_n 2, 1) := by decide +kernel
theorem dX12_sumOf_13 : decode cX12_sumOf 13 = .ok (.aload_n 1, 1) := by decide +kernel
theorem dX12_sumOf_14 : decode cX12_sumOf 14 = .ok (.iload_n 3, 1) := by decide +kernel
theorem dX12_sumOf_15 : decode cX12_sumOf 15 = .ok (.iaload, 1) := by decide +kernel
theorem dX12_sumOf_16 : decode cX12_sumOf 16 = .ok (.iadd, 1) := by decide +kernel
theorem dX12_sumOf_17 : decode cX12_sumOf 17 = .ok (.istore_n 2, 1) := by decide +kernel
theorem dX12_sumOf_18 : decode cX12_sumOf 18 = .ok (.iinc 3 1, 3) := by decide +kernel
theorem dX12_sumOf_21 : decode cX12_sumOf 21 = .ok (.goto (-17), 3) := by decide +kernel
theorem dX12_sumOf_24 : decode cX12_sumOf 24 = .ok (.iload_n 2, 1) := by decide +kernel
theorem dX12_sumOf_25 : decode cX12_sumOf 25 = .ok (.ireturn, 1) := by decide +kernel
theorem bkX12_sumOf_0 {b : Int} {mem : qm} {Q : Int → qm → Prop}
    {c : Int}
    {N : Nat}
    (hc : q_sh0[c.toNat]? = some (0, N))
    (l1 : q_At yX12_sumOf cX12_sumOf 4 (some .int) 1 0 0 (qK (q_rb b) Q) 4 [(2, 188), (2, c), (0, 0), (0, 0)] [] (q_sh0, q_rb b, mem)) :
    q_At yX12_sumOf cX12_sumOf 4 (some .int) 1 0 0 (qK (q_rb b) Q) 0 [(2, 188), (2, c), (4, 0), (4, 0)] [] (q_sh0, q_rb b, mem) := by
  refine qx_iconst dX12_sumOf_0 rfl rfl ?_
  refine qx_istore_n (L' := [(2, 188), (2, c), (0, 0), (4, 0)]) dX12_sumOf_1 rfl rfl rfl rfl ?_
  refine qx_iconst dX12_sumOf_2 rfl rfl ?_
  refine qx_istore_n (L' := [(2, 188), (2, c), (0, 0), (0, 0)]) dX12_sumOf_3 rfl rfl rfl rfl ?_
  exact l1
theorem bkX12_sumOf_4 {b : Int} {mem : qm} {Q : Int → qm → Prop}
    {v2 v3 c : Int}
    {N : Nat}
    (hc : q_sh0[c.toNat]? = some (0, N))
    (l1 : (mem 188 0) ≤ v3 → Q v2 mem)
    (o2 : v3 < (mem 188 0) → (0 ≤ v3 ∧ v3 < N) ∧ q_in32 (v2 + (mem c v3)) ∧ q_in32 (v3 + 1))
    (l3 : v3 < (mem 188 0) → q_At yX12_sumOf cX12_sumOf 4 (some .int) 1 0 0 (qK (q_rb b) Q) 4 [(2, 188), (2, c), (0, (v2 + (mem c v3))), (0, (v3 + 1))] [] (q_sh0, q_rb b, mem)) :
    q_At yX12_sumOf cX12_sumOf 4 (some .int) 1 0 0 (qK (q_rb b) Q) 4 [(2, 188), (2, c), (0, v2), (0, v3)] [] (q_sh0, q_rb b, mem) := by
  refine q_iload_n dX12_sumOf_4 rfl rfl ?_
  refine q_aload_n dX12_sumOf_5 rfl rfl ?_
  refine qx_getI (ci := 12) (k := 0) (v := (mem 188 0)) dX12_sumOf_6 rfl rfl rfl tw1183 rfl qs188 rfl ?_
  refine qx_icmp_ge (tgt := 24) dX12_sumOf_9 (by decide) (fun c1 => ?_) (fun c1 => ?_)
  · skip
    refine q_iload_n dX12_sumOf_24 rfl rfl ?_
    exact q_iret dX12_sumOf_25 (qK_i (l1 c1))
  · skip
    refine q_iload_n dX12_sumOf_12 rfl rfl ?_
    refine q_aload_n dX12_sumOf_13 rfl rfl ?_
    refine q_iload_n dX12_sumOf_14 rfl rfl ?_
    refine qx_iald (v := (mem c v3)) dX12_sumOf_15 hc (o2 c1).1 rfl ?_
    refine qx_iadd dX12_sumOf_16 (o2 c1).2.1 ?_
    refine qx_istore_n (L' := [(2, 188), (2, c), (0, (v2 + (mem c v3))), (0, v3)]) dX12_sumOf_17 rfl rfl rfl rfl ?_
    refine qx_iinc (L' := [(2, 188), (2, c), (0, (v2 + (mem c v3))), (0, (v3 + 1))]) dX12_sumOf_18 rfl rfl rfl (o2 c1).2.2 rfl ?_
    refine q_goto (tgt := 4) dX12_sumOf_21 (by decide) ?_
    exact l3 c1
theorem dX12_allDebts_0 : decode cX12_allDebts 0 = .ok (.iconst 0, 1) := by decide +kernel
theorem dX12_allDebts_1 : decode cX12_allDebts 1 = .ok (.istore_n 1, 1) := by decide +kernel
theorem dX12_allDebts_2 : decode cX12_allDebts 2 = .ok (.aload_n 0, 1) := by decide +kernel
theorem dX12_allDebts_3 : decode cX12_allDebts 3 = .ok (.getfield 34, 3) := by decide +kernel
theorem dX12_allDebts_6 : decode cX12_allDebts 6 = .ok (.astore_n 2, 1) := by decide +kernel
theorem dX12_allDebts_7 : decode cX12_allDebts 7 = .ok (.aload_n 2, 1) := by decide +kernel
theorem dX12_allDebts_8 : decode cX12_allDebts 8 = .ok (.arraylength, 1) := by decide +kernel
theorem dX12_allDebts_9 : decode cX12_allDebts 9 = .ok (.istore_n 3, 1) := by decide +kernel
theorem dX12_allDebts_10 : decode cX12_allDebts 10 = .ok (.iconst 0, 1) := by decide +kernel
theorem dX12_allDebts_11 : decode cX12_allDebts 11 = .ok (.istore 4, 2) := by decide +kernel
theorem dX12_allDebts_13 : decode cX12_allDebts 13 = .ok (.iload 4, 2) := by decide +kernel
theorem dX12_allDebts_15 : decode cX12_allDebts 15 = .ok (.iload_n 3, 1) := by decide +kernel
theorem dX12_allDebts_16 : decode cX12_allDebts 16 = .ok (.if_icmp .ge 20, 3) := by decide +kernel
theorem dX12_allDebts_19 : decode cX12_allDebts 19 = .ok (.aload_n 2, 1) := by decide +kernel
theorem dX12_allDebts_20 : decode cX12_allDebts 20 = .ok (.iload 4, 2) := by decide +kernel
theorem dX12_allDebts_22 : decode cX12_allDebts 22 = .ok (.iaload, 1) := by decide +kernel
theorem dX12_allDebts_23 : decode cX12_allDebts 23 = .ok (.istore 5, 2) := by decide +kernel
theorem dX12_allDebts_25 : decode cX12_allDebts 25 = .ok (.iload_n 1, 1) := by decide +kernel
theorem dX12_allDebts_26 : decode cX12_allDebts 26 = .ok (.iload 5, 2) := by decide +kernel
theorem dX12_allDebts_28 : decode cX12_allDebts 28 = .ok (.iadd, 1) := by decide +kernel
theorem dX12_allDebts_29 : decode cX12_allDebts 29 = .ok (.istore_n 1, 1) := by decide +kernel
theorem dX12_allDebts_30 : decode cX12_allDebts 30 = .ok (.iinc 4 1, 3) := by decide +kernel
theorem dX12_allDebts_33 : decode cX12_allDebts 33 = .ok (.goto (-20), 3) := by decide +kernel
theorem dX12_allDebts_36 : decode cX12_allDebts 36 = .ok (.iload_n 1, 1) := by decide +kernel
theorem dX12_allDebts_37 : decode cX12_allDebts 37 = .ok (.ireturn, 1) := by decide +kernel
theorem bkX12_allDebts_0 {b : Int} {mem : qm} {Q : Int → qm → Prop}
    (l1 : q_At yX12_allDebts cX12_allDebts 6 (some .int) 1 0 0 (qK (q_rb b) Q) 13 [(2, 188), (0, 0), (2, 197), (0, 36), (0, 0), (4, 0)] [] (q_sh0, q_rb b, mem)) :
    q_At yX12_allDebts cX12_allDebts 6 (some .int) 1 0 0 (qK (q_rb b) Q) 0 [(2, 188), (4, 0), (4, 0), (4, 0), (4, 0), (4, 0)] [] (q_sh0, q_rb b, mem) := by
  refine qx_iconst dX12_allDebts_0 rfl rfl ?_
  refine qx_istore_n (L' := [(2, 188), (0, 0), (4, 0), (4, 0), (4, 0), (4, 0)]) dX12_allDebts_1 rfl rfl rfl rfl ?_
  refine q_aload_n dX12_allDebts_2 rfl rfl ?_
  refine q_getR (ci := 12) (k := 9) dX12_allDebts_3 rfl (by decide) rfl tw1192 (by decide) qs188 qw188_9 (by decide) ?_
  refine qx_astore_n (L' := [(2, 188), (0, 0), (2, 197), (4, 0), (4, 0), (4, 0)]) dX12_allDebts_6 rfl rfl rfl rfl ?_
  refine q_aload_n dX12_allDebts_7 rfl rfl ?_
  refine q_alen0 dX12_allDebts_8 qs197 (by decide) ?_
  refine qx_istore_n (L' := [(2, 188), (0, 0), (2, 197), (0, 36), (4, 0), (4, 0)]) dX12_allDebts_9 rfl rfl rfl rfl ?_
  refine qx_iconst dX12_allDebts_10 rfl rfl ?_
  refine qx_istore (L' := [(2, 188), (0, 0), (2, 197), (0, 36), (0, 0), (4, 0)]) dX12_allDebts_11 rfl rfl rfl ?_
  exact l1
theorem bkX12_allDebts_13 {b : Int} {mem : qm} {Q : Int → qm → Prop}
    {v1 v3 v4 : Int}
    (l1 : v3 ≤ v4 → Q v1 mem)
    (o2 : v4 < v3 → (0 ≤ v4 ∧ v4 < 36) ∧ q_in32 (v1 + (mem 197 v4)) ∧ q_in32 (v4 + 1))
    (l3 : v4 < v3 → q_At yX12_allDebts cX12_allDebts 6 (some .int) 1 0 0 (qK (q_rb b) Q) 13 [(2, 188), (0, (v1 + (mem 197 v4))), (2, 197), (0, v3), (0, (v4 + 1)), (4, 0)] [] (q_sh0, q_rb b, mem)) :
    q_At yX12_allDebts cX12_allDebts 6 (some .int) 1 0 0 (qK (q_rb b) Q) 13 [(2, 188), (0, v1), (2, 197), (0, v3), (0, v4), (4, 0)] [] (q_sh0, q_rb b, mem) := by
  refine q_iload dX12_allDebts_13 rfl ?_
  refine q_iload_n dX12_allDebts_15 rfl rfl ?_
  refine qx_icmp_ge (tgt := 36) dX12_allDebts_16 (by decide) (fun c1 => ?_) (fun c1 => ?_)
  · skip
    refine q_iload_n dX12_allDebts_36 rfl rfl ?_
    exact q_iret dX12_allDebts_37 (qK_i (l1 c1))
  · skip
    refine q_aload_n dX12_allDebts_19 rfl rfl ?_
    refine q_iload dX12_allDebts_20 rfl ?_
    refine qx_iald (v := (mem 197 v4)) dX12_allDebts_22 qs197 (o2 c1).1 rfl ?_
    refine qx_istore (L' := [(2, 188), (0, v1), (2, 197), (0, v3), (0, v4), (0, (mem 197 v4))]) dX12_allDebts_23 rfl rfl rfl ?_
    refine q_iload_n dX12_allDebts_25 rfl rfl ?_
    refine q_iload dX12_allDebts_26 rfl ?_
    refine qx_iadd dX12_allDebts_28 (o2 c1).2.1 ?_
    refine qx_istore_n (L' := [(2, 188), (0, (v1 + (mem 197 v4))), (2, 197), (0, v3), (0, v4), (0, (mem 197 v4))]) dX12_allDebts_29 rfl rfl rfl rfl ?_
    refine qx_iinc (L' := [(2, 188), (0, (v1 + (mem 197 v4))), (2, 197), (0, v3), (0, (v4 + 1)), (0, (mem 197 v4))]) dX12_allDebts_30 rfl rfl rfl (o2 c1).2.2 rfl ?_
    refine q_goto (tgt := 13) dX12_allDebts_33 (by decide) ?_
    refine q_kill (L' := [(2, 188), (0, (v1 + (mem 197 v4))), (2, 197), (0, v3), (0, (v4 + 1)), (4, 0)]) 5 rfl ?_
    exact l3 c1
theorem dX12_bells_0 : decode cX12_bells 0 = .ok (.aload_n 0, 1) := by decide +kernel
theorem dX12_bells_1 : decode cX12_bells 1 = .ok (.iconst 0, 1) := by decide +kernel
theorem dX12_bells_2 : decode cX12_bells 2 = .ok (.putfield 128, 3) := by decide +kernel
theorem dX12_bells_5 : decode cX12_bells 5 = .ok (.iload_n 1, 1) := by decide +kernel
theorem dX12_bells_6 : decode cX12_bells 6 = .ok (.invokestatic 270, 3) := by decide +kernel
theorem dX12_bells_9 : decode cX12_bells 9 = .ok (.ifCond .ne 5, 3) := by decide +kernel
theorem dX12_bells_12 : decode cX12_bells 12 = .ok (.iconst (-1), 1) := by decide +kernel
theorem dX12_bells_13 : decode cX12_bells 13 = .ok (.ireturn, 1) := by decide +kernel
theorem dX12_bells_14 : decode cX12_bells 14 = .ok (.iload_n 1, 1) := by decide +kernel
theorem dX12_bells_15 : decode cX12_bells 15 = .ok (.ifCond .le 7, 3) := by decide +kernel
theorem dX12_bells_18 : decode cX12_bells 18 = .ok (.aload_n 0, 1) := by decide +kernel
theorem dX12_bells_19 : decode cX12_bells 19 = .ok (.invokevirtual 257, 3) := by decide +kernel
theorem dX12_bells_22 : decode cX12_bells 22 = .ok (.iconst 0, 1) := by decide +kernel
theorem dX12_bells_23 : decode cX12_bells 23 = .ok (.istore_n 2, 1) := by decide +kernel
theorem dX12_bells_24 : decode cX12_bells 24 = .ok (.iconst 0, 1) := by decide +kernel
theorem dX12_bells_25 : decode cX12_bells 25 = .ok (.istore_n 3, 1) := by decide +kernel
theorem dX12_bells_26 : decode cX12_bells 26 = .ok (.iload_n 3, 1) := by decide +kernel
theorem dX12_bells_27 : decode cX12_bells 27 = .ok (.iload_n 1, 1) := by decide +kernel
theorem dX12_bells_28 : decode cX12_bells 28 = .ok (.if_icmp .ge 16, 3) := by decide +kernel
theorem dX12_bells_31 : decode cX12_bells 31 = .ok (.iload_n 2, 1) := by decide +kernel
theorem dX12_bells_32 : decode cX12_bells 32 = .ok (.aload_n 0, 1) := by decide +kernel
theorem dX12_bells_33 : decode cX12_bells 33 = .ok (.invokevirtual 273, 3) := by decide +kernel
theorem dX12_bells_36 : decode cX12_bells 36 = .ok (.iadd, 1) := by decide +kernel
theorem dX12_bells_37 : decode cX12_bells 37 = .ok (.istore_n 2, 1) := by decide +kernel
theorem dX12_bells_38 : decode cX12_bells 38 = .ok (.iinc 3 1, 3) := by decide +kernel
theorem dX12_bells_41 : decode cX12_bells 41 = .ok (.goto (-15), 3) := by decide +kernel
theorem dX12_bells_44 : decode cX12_bells 44 = .ok (.iconst 0, 1) := by decide +kernel
theorem dX12_bells_45 : decode cX12_bells 45 = .ok (.istore_n 3, 1) := by decide +kernel
theorem dX12_bells_46 : decode cX12_bells 46 = .ok (.iconst 0, 1) := by decide +kernel
theorem dX12_bells_47 : decode cX12_bells 47 = .ok (.istore 4, 2) := by decide +kernel
theorem dX12_bells_49 : decode cX12_bells 49 = .ok (.iload 4, 2) := by decide +kernel
theorem dX12_bells_51 : decode cX12_bells 51 = .ok (.aload_n 0, 1) := by decide +kernel
theorem dX12_bells_52 : decode cX12_bells 52 = .ok (.getfield 134, 3) := by decide +kernel
theorem dX12_bells_55 : decode cX12_bells 55 = .ok (.if_icmp .ge 27, 3) := by decide +kernel
theorem dX12_bells_58 : decode cX12_bells 58 = .ok (.iload_n 3, 1) := by decide +kernel
theorem dX12_bells_59 : decode cX12_bells 59 = .ok (.aload_n 0, 1) := by decide +kernel
theorem dX12_bells_60 : decode cX12_bells 60 = .ok (.getfield 13, 3) := by decide +kernel
theorem dX12_bells_63 : decode cX12_bells 63 = .ok (.iload 4, 2) := by decide +kernel
theorem dX12_bells_65 : decode cX12_bells 65 = .ok (.iaload, 1) := by decide +kernel
theorem dX12_bells_66 : decode cX12_bells 66 = .ok (.ifCond .ne 7, 3) := by decide +kernel
theorem dX12_bells_69 : decode cX12_bells 69 = .ok (.iconst 1, 1) := by decide +kernel
theorem dX12_bells_70 : decode cX12_bells 70 = .ok (.goto 4, 3) := by decide +kernel
theorem dX12_bells_73 : decode cX12_bells 73 = .ok (.iconst 0, 1) := by decide +kernel
theorem dX12_bells_74 : decode cX12_bells 74 = .ok (.iadd, 1) := by decide +kernel
theorem dX12_bells_75 : decode cX12_bells 75 = .ok (.istore_n 3, 1) := by decide +kernel
theorem dX12_bells_76 : decode cX12_bells 76 = .ok (.iinc 4 1, 3) := by decide +kernel
theorem dX12_bells_79 : decode cX12_bells 79 = .ok (.goto (-30), 3) := by decide +kernel
theorem dX12_bells_82 : decode cX12_bells 82 = .ok (.aload_n 0, 1) := by decide +kernel
theorem dX12_bells_83 : decode cX12_bells 83 = .ok (.iconst 0, 1) := by decide +kernel
theorem dX12_bells_84 : decode cX12_bells 84 = .ok (.putfield 131, 3) := by decide +kernel
theorem dX12_bells_87 : decode cX12_bells 87 = .ok (.aload_n 0, 1) := by decide +kernel
theorem dX12_bells_88 : decode cX12_bells 88 = .ok (.iload_n 3, 1) := by decide +kernel
theorem dX12_bells_89 : decode cX12_bells 89 = .ok (.invokevirtual 276, 3) := by decide +kernel
theorem dX12_bells_92 : decode cX12_bells 92 = .ok (.aload_n 0, 1) := by decide +kernel
theorem dX12_bells_93 : decode cX12_bells 93 = .ok (.aload_n 0, 1) := by decide +kernel
theorem dX12_bells_94 : decode cX12_bells 94 = .ok (.aload_n 0, 1) := by decide +kernel
theorem dX12_bells_95 : decode cX12_bells 95 = .ok (.getfield 13, 3) := by decide +kernel
theorem dX12_bells_98 : decode cX12_bells 98 = .ok (.invokevirtual 279, 3) := by decide +kernel
theorem dX12_bells_101 : decode cX12_bells 101 = .ok (.invokevirtual 276, 3) := by decide +kernel
theorem dX12_bells_104 : decode cX12_bells 104 = .ok (.iload_n 2, 1) := by decide +kernel
theorem dX12_bells_105 : decode cX12_bells 105 = .ok (.ireturn, 1) := by decide +kernel
theorem bkX12_bells_0 {b : Int} {mem : qm} {Q : Int → qm → Prop}
    {v : Int}
    (l1 : (0 ≤ v ∧ v ≤ 200) → v ≤ 0 → q_At yX12_bells cX12_bells 5 (some .int) 3 0 0 (qK (q_rb b) Q) 26 [(2, 188), (0, v), (0, 0), (0, 0), (4, 0)] [] (q_sh0, q_rb b, (q_up mem 188 17 0)))
    {P3 : Int → qm → Prop}
    (l2 : (0 ≤ v ∧ v ≤ 200) → 0 < v → q_Ev yX12_remember cX12_remember 2 none 2 0 0 [(2, 188)] (q_sh0, q_rb b, (q_up mem 188 17 0)) (qK (q_rb b) (P3)))
    (l3 : (0 ≤ v ∧ v ≤ 200) → 0 < v → ∀ (r3 : Int), ∀ (m3 : qm), P3 r3 m3 → q_in32 r3 → q_At yX12_bells cX12_bells 5 (some .int) 3 0 0 (qK (q_rb b) Q) 26 [(2, 188), (0, v), (0, 0), (0, 0), (4, 0)] [] (q_sh0, q_rb b, m3))
    (l4 : ¬ (0 ≤ v ∧ v ≤ 200) → Q (-1) (q_up mem 188 17 0)) :
    q_At yX12_bells cX12_bells 5 (some .int) 3 0 0 (qK (q_rb b) Q) 0 [(2, 188), (0, v), (4, 0), (4, 0), (4, 0)] [] (q_sh0, q_rb b, mem) := by
  refine q_aload_n dX12_bells_0 rfl rfl ?_
  refine qx_iconst dX12_bells_1 rfl rfl ?_
  refine q_putI (ci := 12) (k := 17) (kI := 17) (ty := .int) dX12_bells_2 rfl (by decide) rfl tw1200 rfl rfl rfl (fun _ => ⟨rfl, rfl⟩) qs188 ?_
  refine q_iload_n dX12_bells_5 rfl rfl ?_
  refine qx_invS [(0, v)] [(0, v)] rfl qM_X12_isAhead dX12_bells_6 tw1502 rfl rfl rfl rfl (spX12_isAhead) (fun r1 m1 p1 q1 => ?_)
  obtain ⟨p1e, ⟨p1f, p1⟩ | ⟨p1f, p1⟩⟩ := p1
  · rw [p1e, p1f]
    refine qx_if_ne (tgt := 14) dX12_bells_9 (by decide) (fun _ => ?_) (fun z => absurd z (by decide))
    refine q_iload_n dX12_bells_14 rfl rfl ?_
    refine qx_if_le (tgt := 22) dX12_bells_15 (by decide) (fun c2 => ?_) (fun c2 => ?_)
    · skip
      refine qx_iconst dX12_bells_22 rfl rfl ?_
      refine qx_istore_n (L' := [(2, 188), (0, v), (0, 0), (4, 0), (4, 0)]) dX12_bells_23 rfl rfl rfl rfl ?_
      refine qx_iconst dX12_bells_24 rfl rfl ?_
      refine qx_istore_n (L' := [(2, 188), (0, v), (0, 0), (0, 0), (4, 0)]) dX12_bells_25 rfl rfl rfl rfl ?_
      exact l1 p1 c2
    · skip
      refine q_aload_n dX12_bells_18 rfl rfl ?_
      refine qx_invV (ci := 12) [] [(2, 188)] rfl qM_X12_remember dX12_bells_19 tw1466 rfl qs188 rfl rfl rfl rfl (l2 p1 c2) (fun r3 m3 p3 q3 => ?_)
      refine qx_iconst dX12_bells_22 rfl rfl ?_
      refine qx_istore_n (L' := [(2, 188), (0, v), (0, 0), (4, 0), (4, 0)]) dX12_bells_23 rfl rfl rfl rfl ?_
      refine qx_iconst dX12_bells_24 rfl rfl ?_
      refine qx_istore_n (L' := [(2, 188), (0, v), (0, 0), (0, 0), (4, 0)]) dX12_bells_25 rfl rfl rfl rfl ?_
      exact l3 p1 c2 r3 m3 p3 q3
  · rw [p1e, p1f]
    refine qx_if_ne (tgt := 14) dX12_bells_9 (by decide) (fun z => absurd z (by decide)) (fun _ => ?_)
    refine qx_iconst dX12_bells_12 rfl rfl ?_
    exact q_iret dX12_bells_13 (qK_i (l4 p1))
theorem bkX12_bells_26 {b : Int} {mem : qm} {Q : Int → qm → Prop}
    {v v2 v3 : Int}
    (l1 : v ≤ v3 → q_At yX12_bells cX12_bells 5 (some .int) 3 0 0 (qK (q_rb b) Q) 49 [(2, 188), (0, v), (0, v2), (0, 0), (0, 0)] [] (q_sh0, q_rb b, mem))
    {P2 : Int → qm → Prop}
    (l2 : v3 < v → q_Ev yX12_goBell cX12_goBell 6 (some .int) 2 0 0 [(2, 188)] (q_sh0, q_rb b, mem) (qK (q_rb b) (P2)))
    (o3 : v3 < v → ∀ (r2 : Int), ∀ (m2 : qm), P2 r2 m2 → q_in32 r2 → q_in32 (v2 + r2) ∧ q_in32 (v3 + 1))
    (l4 : v3 < v → ∀ (r2 : Int), ∀ (m2 : qm), P2 r2 m2 → q_in32 r2 → q_At yX12_bells cX12_bells 5 (some .int) 3 0 0 (qK (q_rb b) Q) 26 [(2, 188), (0, v), (0, (v2 + r2)), (0, (v3 + 1)), (4, 0)] [] (q_sh0, q_rb b, m2)) :
    q_At yX12_bells cX12_bells 5 (some .int) 3 0 0 (qK (q_rb b) Q) 26 [(2, 188), (0, v), (0, v2), (0, v3), (4, 0)] [] (q_sh0, q_rb b, mem) := by
  refine q_iload_n dX12_bells_26 rfl rfl ?_
  refine q_iload_n dX12_bells_27 rfl rfl ?_
  refine qx_icmp_ge (tgt := 44) dX12_bells_28 (by decide) (fun c1 => ?_) (fun c1 => ?_)
  · skip
    refine qx_iconst dX12_bells_44 rfl rfl ?_
    refine qx_istore_n (L' := [(2, 188), (0, v), (0, v2), (0, 0), (4, 0)]) dX12_bells_45 rfl rfl rfl rfl ?_
    refine qx_iconst dX12_bells_46 rfl rfl ?_
    refine qx_istore (L' := [(2, 188), (0, v), (0, v2), (0, 0), (0, 0)]) dX12_bells_47 rfl rfl rfl ?_
    exact l1 c1
  · skip
    refine q_iload_n dX12_bells_31 rfl rfl ?_
    refine q_aload_n dX12_bells_32 rfl rfl ?_
    refine qx_invV (ci := 12) [] [(2, 188), (0, v2)] rfl qM_X12_goBell dX12_bells_33 tw1505 rfl qs188 rfl rfl rfl rfl (l2 c1) (fun r2 m2 p2 q2 => ?_)
    refine qx_iadd dX12_bells_36 (o3 c1 r2 m2 p2 q2).1 ?_
    refine qx_istore_n (L' := [(2, 188), (0, v), (0, (v2 + r2)), (0, v3), (4, 0)]) dX12_bells_37 rfl rfl rfl rfl ?_
    refine qx_iinc (L' := [(2, 188), (0, v), (0, (v2 + r2)), (0, (v3 + 1)), (4, 0)]) dX12_bells_38 rfl rfl rfl (o3 c1 r2 m2 p2 q2).2 rfl ?_
    refine q_goto (tgt := 26) dX12_bells_41 (by decide) ?_
    exact l4 c1 r2 m2 p2 q2
theorem bkX12_bells_49 {b : Int} {mem : qm} {Q : Int → qm → Prop}
    {v v2 v3 v4 : Int}
    (o1 : (mem 188 0) ≤ v4 → (0 ≤ (0 : Int) ∧ (0 : Int) < 16))
    {P3 : Int → qm → Prop}
    (l2 : (mem 188 0) ≤ v4 → q_Ev yX12_sumOf cX12_sumOf 4 (some .int) 1 0 0 [(2, 188), (2, 190)] (q_sh0, q_rb b, (q_up (q_up (q_up mem 188 16 0) 199 (0 : Int) v3) 188 16 ((0 : Int) + 1))) (qK (q_rb b) (P3)))
    (o3 : (mem 188 0) ≤ v4 → ∀ (r3 : Int), ∀ (m3 : qm), P3 r3 m3 → q_in32 r3 → (0 ≤ (m3 188 16) ∧ (m3 188 16) < 16))
    (l4 : (mem 188 0) ≤ v4 → ∀ (r3 : Int), ∀ (m3 : qm), P3 r3 m3 → q_in32 r3 → Q v2 (q_up (q_up m3 199 (m3 188 16) r3) 188 16 ((m3 188 16) + 1)))
    (o5 : v4 < (mem 188 0) → (0 ≤ v4 ∧ v4 < 9))
    (o6 : v4 < (mem 188 0) → (mem 190 v4) ≠ 0 → q_in32 (v3 + 0) ∧ q_in32 (v4 + 1))
    (l7 : v4 < (mem 188 0) → (mem 190 v4) ≠ 0 → q_At yX12_bells cX12_bells 5 (some .int) 3 0 0 (qK (q_rb b) Q) 49 [(2, 188), (0, v), (0, v2), (0, (v3 + 0)), (0, (v4 + 1))] [] (q_sh0, q_rb b, mem))
    (o8 : v4 < (mem 188 0) → (mem 190 v4) = 0 → q_in32 (v3 + 1) ∧ q_in32 (v4 + 1))
    (l9 : v4 < (mem 188 0) → (mem 190 v4) = 0 → q_At yX12_bells cX12_bells 5 (some .int) 3 0 0 (qK (q_rb b) Q) 49 [(2, 188), (0, v), (0, v2), (0, (v3 + 1)), (0, (v4 + 1))] [] (q_sh0, q_rb b, mem)) :
    q_At yX12_bells cX12_bells 5 (some .int) 3 0 0 (qK (q_rb b) Q) 49 [(2, 188), (0, v), (0, v2), (0, v3), (0, v4)] [] (q_sh0, q_rb b, mem) := by
  refine q_iload dX12_bells_49 rfl ?_
  refine q_aload_n dX12_bells_51 rfl rfl ?_
  refine qx_getI (ci := 12) (k := 0) (v := (mem 188 0)) dX12_bells_52 rfl rfl rfl tw1183 rfl qs188 rfl ?_
  refine qx_icmp_ge (tgt := 82) dX12_bells_55 (by decide) (fun c1 => ?_) (fun c1 => ?_)
  · skip
    refine q_aload_n dX12_bells_82 rfl rfl ?_
    refine qx_iconst dX12_bells_83 rfl rfl ?_
    refine q_putI (ci := 12) (k := 16) (kI := 16) (ty := .int) dX12_bells_84 rfl (by decide) rfl tw1199 rfl rfl rfl (fun _ => ⟨rfl, rfl⟩) qs188 ?_
    refine q_aload_n dX12_bells_87 rfl rfl ?_
    refine q_iload_n dX12_bells_88 rfl rfl ?_
    refine qx_invV (ci := 12) [(0, v3)] [(0, v3), (2, 188)] rfl qM_X12_tell dX12_bells_89 tw1509 rfl qs188 rfl rfl rfl rfl (spX12_tell (by first | exact (o1 c1) | (simp only [q_up, Int.reduceEq, false_and, true_and, and_true, and_false, ite_false, ite_true, if_true, if_false]; exact (o1 c1)))) (fun r2 m2 p2 q2 => ?_)
    obtain rfl := p2
    refine q_aload_n dX12_bells_92 rfl rfl ?_
    refine q_aload_n dX12_bells_93 rfl rfl ?_
    refine q_aload_n dX12_bells_94 rfl rfl ?_
    refine q_getR (ci := 12) (k := 2) dX12_bells_95 rfl (by decide) rfl tw1185 (by decide) qs188 qw188_2 (by decide) ?_
    refine qx_invV (ci := 12) [(2, 190)] [(2, 190), (2, 188), (2, 188)] rfl qM_X12_sumOf dX12_bells_98 tw1513 rfl qs188 rfl rfl rfl rfl (l2 c1) (fun r3 m3 p3 q3 => ?_)
    refine qx_invV (ci := 12) [(0, r3)] [(0, r3), (2, 188)] rfl qM_X12_tell dX12_bells_101 tw1509 rfl qs188 rfl rfl rfl rfl (spX12_tell (o3 c1 r3 m3 p3 q3)) (fun r4 m4 p4 q4 => ?_)
    obtain rfl := p4
    refine q_iload_n dX12_bells_104 rfl rfl ?_
    exact q_iret dX12_bells_105 (qK_i (l4 c1 r3 m3 p3 q3))
  · skip
    refine q_iload_n dX12_bells_58 rfl rfl ?_
    refine q_aload_n dX12_bells_59 rfl rfl ?_
    refine q_getR (ci := 12) (k := 2) dX12_bells_60 rfl (by decide) rfl tw1185 (by decide) qs188 qw188_2 (by decide) ?_
    refine q_iload dX12_bells_63 rfl ?_
    refine qx_iald (v := (mem 190 v4)) dX12_bells_65 qs190 (o5 c1) rfl ?_
    refine qx_if_ne (tgt := 73) dX12_bells_66 (by decide) (fun c5 => ?_) (fun c5 => ?_)
    · skip
      refine qx_iconst dX12_bells_73 rfl rfl ?_
      refine qx_iadd dX12_bells_74 (o6 c1 c5).1 ?_
      refine qx_istore_n (L' := [(2, 188), (0, v), (0, v2), (0, (v3 + 0)), (0, v4)]) dX12_bells_75 rfl rfl rfl rfl ?_
      refine qx_iinc (L' := [(2, 188), (0, v), (0, v2), (0, (v3 + 0)), (0, (v4 + 1))]) dX12_bells_76 rfl rfl rfl (o6 c1 c5).2 rfl ?_
      refine q_goto (tgt := 49) dX12_bells_79 (by decide) ?_
      exact l7 c1 c5
    · skip
      refine qx_iconst dX12_bells_69 rfl rfl ?_
      refine q_goto (tgt := 74) dX12_bells_70 (by decide) ?_
      refine qx_iadd dX12_bells_74 (o8 c1 c5).1 ?_
      refine qx_istore_n (L' := [(2, 188), (0, v), (0, v2), (0, (v3 + 1)), (0, v4)]) dX12_bells_75 rfl rfl rfl rfl ?_
      refine qx_iinc (L' := [(2, 188), (0, v), (0, v2), (0, (v3 + 1)), (0, (v4 + 1))]) dX12_bells_76 rfl rfl rfl (o8 c1 c5).2 rfl ?_
      refine q_goto (tgt := 49) dX12_bells_79 (by decide) ?_
      exact l9 c1 c5
theorem dX12_undo_0 : decode cX12_undo 0 = .ok (.aload_n 0, 1) := by decide +kernel
theorem dX12_undo_1 : decode cX12_undo 1 = .ok (.iconst 0, 1) := by decide +kernel
theorem dX12_undo_2 : decode cX12_undo 2 = .ok (.putfield 128, 3) := by decide +kernel
theorem dX12_undo_5 : decode cX12_undo 5 = .ok (.aload_n 0, 1) := by decide +kernel
theorem dX12_undo_6 : decode cX12_undo 6 = .ok (.getfield 197, 3) := by decide +kernel
theorem dX12_undo_9 : decode cX12_undo 9 = .ok (.ifCond .ne 5, 3) := by decide +kernel
theorem dX12_undo_12 : decode cX12_undo 12 = .ok (.iconst (-1), 1) := by decide +kernel
theorem dX12_undo_13 : decode cX12_undo 13 = .ok (.ireturn, 1) := by decide +kernel
theorem dX12_undo_14 : decode cX12_undo 14 = .ok (.aload_n 0, 1) := by decide +kernel
theorem dX12_undo_15 : decode cX12_undo 15 = .ok (.dup, 1) := by decide +kernel
theorem dX12_undo_16 : decode cX12_undo 16 = .ok (.getfield 197, 3) := by decide +kernel
theorem dX12_undo_19 : decode cX12_undo 19 = .ok (.iconst 1, 1) := by decide +kernel
theorem dX12_undo_20 : decode cX12_undo 20 = .ok (.isub, 1) := by decide +kernel
theorem dX12_undo_21 : decode cX12_undo 21 = .ok (.putfield 197, 3) := by decide +kernel
theorem dX12_undo_24 : decode cX12_undo 24 = .ok (.aload_n 0, 1) := by decide +kernel
theorem dX12_undo_25 : decode cX12_undo 25 = .ok (.aload_n 0, 1) := by decide +kernel
theorem dX12_undo_26 : decode cX12_undo 26 = .ok (.getfield 63, 3) := by decide +kernel
theorem dX12_undo_29 : decode cX12_undo 29 = .ok (.sipush 597, 3) := by decide +kernel
theorem dX12_undo_32 : decode cX12_undo 32 = .ok (.aload_n 0, 1) := by decide +kernel
theorem dX12_undo_33 : decode cX12_undo 33 = .ok (.getfield 197, 3) := by decide +kernel
theorem dX12_undo_36 : decode cX12_undo 36 = .ok (.imul, 1) := by decide +kernel
theorem dX12_undo_37 : decode cX12_undo 37 = .ok (.invokevirtual 283, 3) := by decide +kernel
theorem dX12_undo_40 : decode cX12_undo 40 = .ok (.aload_n 0, 1) := by decide +kernel
theorem dX12_undo_41 : decode cX12_undo 41 = .ok (.getfield 197, 3) := by decide +kernel
theorem dX12_undo_44 : decode cX12_undo 44 = .ok (.ireturn, 1) := by decide +kernel
theorem bkX12_undo_0 {b : Int} {mem : qm} {Q : Int → qm → Prop}
    (o1 : (mem 188 30) ≠ 0 → q_in32 ((mem 188 30) - 1) ∧ q_in32 (597 * ((mem 188 30) - 1)))
    {P2 : Int → qm → Prop}
    (l2 : (mem 188 30) ≠ 0 → q_Ev yX12_bring cX12_bring 5 none 1 0 0 [(2, 188), (2, 204), (0, (597 * ((mem 188 30) - 1)))] (q_sh0, q_rb b, (q_up (q_up mem 188 17 0) 188 30 ((mem 188 30) - 1))) (qK (q_rb b) (P2)))
    (l3 : (mem 188 30) ≠ 0 → ∀ (r2 : Int), ∀ (m2 : qm), P2 r2 m2 → q_in32 r2 → Q (m2 188 30) m2)
    (l4 : (mem 188 30) = 0 → Q (-1) (q_up mem 188 17 0)) :
    q_At yX12_undo cX12_undo 1 (some .int) 2 0 0 (qK (q_rb b) Q) 0 [(2, 188)] [] (q_sh0, q_rb b, mem) := by
  refine q_aload_n dX12_undo_0 rfl rfl ?_
  refine qx_iconst dX12_undo_1 rfl rfl ?_
  refine q_putI (ci := 12) (k := 17) (kI := 17) (ty := .int) dX12_undo_2 rfl (by decide) rfl tw1200 rfl rfl rfl (fun _ => ⟨rfl, rfl⟩) qs188 ?_
  refine q_aload_n dX12_undo_5 rfl rfl ?_
  refine qx_getI (ci := 12) (k := 30) (v := (mem 188 30)) dX12_undo_6 rfl rfl rfl tw1213 rfl qs188 (q_up_i (by decide)) ?_
  refine qx_if_ne (tgt := 14) dX12_undo_9 (by decide) (fun c1 => ?_) (fun c1 => ?_)
  · skip
    refine q_aload_n dX12_undo_14 rfl rfl ?_
    refine q_dup dX12_undo_15 (fun h => by cases h) ?_
    refine qx_getI (ci := 12) (k := 30) (v := (mem 188 30)) dX12_undo_16 rfl rfl rfl tw1213 rfl qs188 (q_up_i (by decide)) ?_
    refine qx_iconst dX12_undo_19 rfl rfl ?_
    refine qx_isub dX12_undo_20 (o1 c1).1 ?_
    refine q_putI (ci := 12) (k := 30) (kI := 30) (ty := .int) dX12_undo_21 rfl (by decide) rfl tw1213 rfl rfl rfl (fun _ => ⟨rfl, rfl⟩) qs188 ?_
    refine q_aload_n dX12_undo_24 rfl rfl ?_
    refine q_aload_n dX12_undo_25 rfl rfl ?_
    refine q_getR (ci := 12) (k := 29) dX12_undo_26 rfl (by decide) rfl tw1212 (by decide) qs188 qw188_29 (by decide) ?_
    refine qx_sipush dX12_undo_29 rfl rfl ?_
    refine q_aload_n dX12_undo_32 rfl rfl ?_
    refine qx_getI (ci := 12) (k := 30) (v := ((mem 188 30) - 1)) dX12_undo_33 rfl rfl rfl tw1213 rfl qs188 q_up_s ?_
    refine qx_imul dX12_undo_36 (o1 c1).2 ?_
    refine qx_invV (ci := 12) [(2, 204), (0, (597 * ((mem 188 30) - 1)))] [(0, (597 * ((mem 188 30) - 1))), (2, 204), (2, 188)] rfl qM_X12_bring dX12_undo_37 tw1521 rfl qs188 rfl rfl rfl rfl (l2 c1) (fun r2 m2 p2 q2 => ?_)
    refine q_aload_n dX12_undo_40 rfl rfl ?_
    refine qx_getI (ci := 12) (k := 30) (v := (m2 188 30)) dX12_undo_41 rfl rfl rfl tw1213 rfl qs188 rfl ?_
    exact q_iret dX12_undo_44 (qK_i (l3 c1 r2 m2 p2 q2))
  · skip
    refine qx_iconst dX12_undo_12 rfl rfl ?_
    exact q_iret dX12_undo_13 (qK_i (l4 c1))
theorem dX12_judge_0 : decode cX12_judge 0 = .ok (.aload_n 0, 1) := by decide +kernel
theorem dX12_judge_1 : decode cX12_judge 1 = .ok (.iconst 0, 1) := by decide +kernel
theorem dX12_judge_2 : decode cX12_judge 2 = .ok (.putfield 128, 3) := by decide +kernel
theorem dX12_judge_5 : decode cX12_judge 5 = .ok (.iload_n 1, 1) := by decide +kernel
theorem dX12_judge_6 : decode cX12_judge 6 = .ok (.iconst 0, 1) := by decide +kernel
theorem dX12_judge_7 : decode cX12_judge 7 = .ok (.iconst 3, 1) := by decide +kernel
theorem dX12_judge_8 : decode cX12_judge 8 = .ok (.invokestatic 137, 3) := by decide +kernel
theorem dX12_judge_11 : decode cX12_judge 11 = .ok (.ifCond .ne 5, 3) := by decide +kernel
theorem dX12_judge_14 : decode cX12_judge 14 = .ok (.iconst (-1), 1) := by decide +kernel
theorem dX12_judge_15 : decode cX12_judge 15 = .ok (.ireturn, 1) := by decide +kernel
theorem dX12_judge_16 : decode cX12_judge 16 = .ok (.aload_n 0, 1) := by decide +kernel
theorem dX12_judge_17 : decode cX12_judge 17 = .ok (.aload_n 0, 1) := by decide +kernel
theorem dX12_judge_18 : decode cX12_judge 18 = .ok (.getfield 66, 3) := by decide +kernel
theorem dX12_judge_21 : decode cX12_judge 21 = .ok (.iconst 0, 1) := by decide +kernel
theorem dX12_judge_22 : decode cX12_judge 22 = .ok (.invokevirtual 250, 3) := by decide +kernel
theorem dX12_judge_25 : decode cX12_judge 25 = .ok (.iconst 0, 1) := by decide +kernel
theorem dX12_judge_26 : decode cX12_judge 26 = .ok (.istore 5, 2) := by decide +kernel
theorem dX12_judge_28 : decode cX12_judge 28 = .ok (.bipush (-2), 2) := by decide +kernel
theorem dX12_judge_30 : decode cX12_judge 30 = .ok (.istore 6, 2) := by decide +kernel
theorem dX12_judge_32 : decode cX12_judge 32 = .ok (.iconst 0, 1) := by decide +kernel
theorem dX12_judge_33 : decode cX12_judge 33 = .ok (.istore 7, 2) := by decide +kernel
theorem dX12_judge_35 : decode cX12_judge 35 = .ok (.iload 7, 2) := by decide +kernel
theorem dX12_judge_37 : decode cX12_judge 37 = .ok (.iload_n 1, 1) := by decide +kernel
theorem dX12_judge_38 : decode cX12_judge 38 = .ok (.if_icmp .ge 110, 3) := by decide +kernel
theorem dX12_judge_41 : decode cX12_judge 41 = .ok (.iload 6, 2) := by decide +kernel
theorem dX12_judge_43 : decode cX12_judge 43 = .ok (.bipush (-2), 2) := by decide +kernel
theorem dX12_judge_45 : decode cX12_judge 45 = .ok (.if_icmp .ne 103, 3) := by decide +kernel
theorem dX12_judge_48 : decode cX12_judge 48 = .ok (.iload 7, 2) := by decide +kernel
theorem dX12_judge_50 : decode cX12_judge 50 = .ok (.ifCond .ne 7, 3) := by decide +kernel
theorem dX12_judge_53 : decode cX12_judge 53 = .ok (.iload_n 2, 1) := by decide +kernel
theorem dX12_judge_54 : decode cX12_judge 54 = .ok (.goto 15, 3) := by decide +kernel
theorem dX12_judge_57 : decode cX12_judge 57 = .ok (.iload 7, 2) := by decide +kernel
theorem dX12_judge_59 : decode cX12_judge 59 = .ok (.iconst 1, 1) := by decide +kernel
theorem dX12_judge_60 : decode cX12_judge 60 = .ok (.if_icmp .ne 7, 3) := by decide +kernel
theorem dX12_judge_63 : decode cX12_judge 63 = .ok (.iload_n 3, 1) := by decide +kernel
theorem dX12_judge_64 : decode cX12_judge 64 = .ok (.goto 5, 3) := by decide +kernel
theorem dX12_judge_67 : decode cX12_judge 67 = .ok (.iload 4, 2) := by decide +kernel
theorem dX12_judge_69 : decode cX12_judge 69 = .ok (.istore 8, 2) := by decide +kernel
theorem dX12_judge_71 : decode cX12_judge 71 = .ok (.iload 8, 2) := by decide +kernel
theorem dX12_judge_73 : decode cX12_judge 73 = .ok (.ifCond .lt 29, 3) := by decide +kernel
theorem dX12_judge_76 : decode cX12_judge 76 = .ok (.aload_n 0, 1) := by decide +kernel
theorem dX12_judge_77 : decode cX12_judge 77 = .ok (.iload 8, 2) := by decide +kernel
theorem dX12_judge_79 : decode cX12_judge 79 = .ok (.sipush 1000, 3) := by decide +kernel
theorem dX12_judge_82 : decode cX12_judge 82 = .ok (.idiv, 1) := by decide +kernel
theorem dX12_judge_83 : decode cX12_judge 83 = .ok (.iload 8, 2) := by decide +kernel
theorem dX12_judge_85 : decode cX12_judge 85 = .ok (.bipush 100, 2) := by decide +kernel
theorem dX12_judge_87 : decode cX12_judge 87 = .ok (.idiv, 1) := by decide +kernel
theorem dX12_judge_88 : decode cX12_judge 88 = .ok (.bipush 10, 2) := by decide +kernel
theorem dX12_judge_90 : decode cX12_judge 90 = .ok (.irem, 1) := by decide +kernel
theorem dX12_judge_91 : decode cX12_judge 91 = .ok (.iload 8, 2) := by decide +kernel
theorem dX12_judge_93 : decode cX12_judge 93 = .ok (.bipush 100, 2) := by decide +kernel
theorem dX12_judge_95 : decode cX12_judge 95 = .ok (.irem, 1) := by decide +kernel
theorem dX12_judge_96 : decode cX12_judge 96 = .ok (.invokevirtual 264, 3) := by decide +kernel
theorem dX12_judge_99 : decode cX12_judge 99 = .ok (.ifCond .ge 10, 3) := by decide +kernel
theorem dX12_judge_102 : decode cX12_judge 102 = .ok (.iload 7, 2) := by decide +kernel
theorem dX12_judge_104 : decode cX12_judge 104 = .ok (.istore 6, 2) := by decide +kernel
theorem dX12_judge_106 : decode cX12_judge 106 = .ok (.goto 36, 3) := by decide +kernel
theorem dX12_judge_109 : decode cX12_judge 109 = .ok (.aload_n 0, 1) := by decide +kernel
theorem dX12_judge_110 : decode cX12_judge 110 = .ok (.iload 8, 2) := by decide +kernel
theorem dX12_judge_112 : decode cX12_judge 112 = .ok (.sipush 1000, 3) := by decide +kernel
theorem dX12_judge_115 : decode cX12_judge 115 = .ok (.idiv, 1) := by decide +kernel
theorem dX12_judge_116 : decode cX12_judge 116 = .ok (.iload 8, 2) := by decide +kernel
theorem dX12_judge_118 : decode cX12_judge 118 = .ok (.bipush 100, 2) := by decide +kernel
theorem dX12_judge_120 : decode cX12_judge 120 = .ok (.idiv, 1) := by decide +kernel
theorem dX12_judge_121 : decode cX12_judge 121 = .ok (.bipush 10, 2) := by decide +kernel
theorem dX12_judge_123 : decode cX12_judge 123 = .ok (.irem, 1) := by decide +kernel
theorem dX12_judge_124 : decode cX12_judge 124 = .ok (.iload 8, 2) := by decide +kernel
theorem dX12_judge_126 : decode cX12_judge 126 = .ok (.bipush 100, 2) := by decide +kernel
theorem dX12_judge_128 : decode cX12_judge 128 = .ok (.irem, 1) := by decide +kernel
theorem dX12_judge_129 : decode cX12_judge 129 = .ok (.invokevirtual 267, 3) := by decide +kernel
theorem dX12_judge_132 : decode cX12_judge 132 = .ok (.iload 5, 2) := by decide +kernel
theorem dX12_judge_134 : decode cX12_judge 134 = .ok (.iload 8, 2) := by decide +kernel
theorem dX12_judge_136 : decode cX12_judge 136 = .ok (.bipush 100, 2) := by decide +kernel
theorem dX12_judge_138 : decode cX12_judge 138 = .ok (.irem, 1) := by decide +kernel
theorem dX12_judge_139 : decode cX12_judge 139 = .ok (.iadd, 1) := by decide +kernel
theorem dX12_judge_140 : decode cX12_judge 140 = .ok (.istore 5, 2) := by decide +kernel
theorem dX12_judge_142 : decode cX12_judge 142 = .ok (.iinc 7 1, 3) := by decide +kernel
theorem dX12_judge_145 : decode cX12_judge 145 = .ok (.goto (-110), 3) := by decide +kernel
theorem dX12_judge_148 : decode cX12_judge 148 = .ok (.aload_n 0, 1) := by decide +kernel
theorem dX12_judge_149 : decode cX12_judge 149 = .ok (.invokevirtual 286, 3) := by decide +kernel
theorem dX12_judge_152 : decode cX12_judge 152 = .ok (.istore 7, 2) := by decide +kernel
theorem dX12_judge_154 : decode cX12_judge 154 = .ok (.aload_n 0, 1) := by decide +kernel
theorem dX12_judge_155 : decode cX12_judge 155 = .ok (.aload_n 0, 1) := by decide +kernel
theorem dX12_judge_156 : decode cX12_judge 156 = .ok (.getfield 66, 3) := by decide +kernel
theorem dX12_judge_159 : decode cX12_judge 159 = .ok (.iconst 0, 1) := by decide +kernel
theorem dX12_judge_160 : decode cX12_judge 160 = .ok (.invokevirtual 283, 3) := by decide +kernel
theorem dX12_judge_163 : decode cX12_judge 163 = .ok (.aload_n 0, 1) := by decide +kernel
theorem dX12_judge_164 : decode cX12_judge 164 = .ok (.iconst 0, 1) := by decide +kernel
theorem dX12_judge_165 : decode cX12_judge 165 = .ok (.putfield 131, 3) := by decide +kernel
theorem dX12_judge_168 : decode cX12_judge 168 = .ok (.aload_n 0, 1) := by decide +kernel
theorem dX12_judge_169 : decode cX12_judge 169 = .ok (.iload 5, 2) := by decide +kernel
theorem dX12_judge_171 : decode cX12_judge 171 = .ok (.invokevirtual 276, 3) := by decide +kernel
theorem dX12_judge_174 : decode cX12_judge 174 = .ok (.aload_n 0, 1) := by decide +kernel
theorem dX12_judge_175 : decode cX12_judge 175 = .ok (.iload 7, 2) := by decide +kernel
theorem dX12_judge_177 : decode cX12_judge 177 = .ok (.invokevirtual 276, 3) := by decide +kernel
theorem dX12_judge_180 : decode cX12_judge 180 = .ok (.iload 6, 2) := by decide +kernel
theorem dX12_judge_182 : decode cX12_judge 182 = .ok (.ireturn, 1) := by decide +kernel
theorem bkX12_judge_0 {b : Int} {mem : qm} {Q : Int → qm → Prop}
    {v x y z : Int}
    {P2 : Int → qm → Prop}
    (l1 : (0 ≤ v ∧ v ≤ 3) → q_Ev yX12_lay cX12_lay 5 none 1 0 0 [(2, 188), (2, 205), (0, 0)] (q_sh0, q_rb b, (q_up mem 188 17 0)) (qK (q_rb b) (P2)))
    (l2 : (0 ≤ v ∧ v ≤ 3) → ∀ (r2 : Int), ∀ (m2 : qm), P2 r2 m2 → q_in32 r2 → q_At yX12_judge cX12_judge 9 (some .int) 4 0 0 (qK (q_rb b) Q) 35 [(2, 188), (0, v), (0, x), (0, y), (0, z), (0, 0), (0, (-2)), (0, 0), (4, 0)] [] (q_sh0, q_rb b, m2))
    (l3 : ¬ (0 ≤ v ∧ v ≤ 3) → Q (-1) (q_up mem 188 17 0)) :
    q_At yX12_judge cX12_judge 9 (some .int) 4 0 0 (qK (q_rb b) Q) 0 [(2, 188), (0, v), (0, x), (0, y), (0, z), (4, 0), (4, 0), (4, 0), (4, 0)] [] (q_sh0, q_rb b, mem) := by
  refine q_aload_n dX12_judge_0 rfl rfl ?_
  refine qx_iconst dX12_judge_1 rfl rfl ?_
  refine q_putI (ci := 12) (k := 17) (kI := 17) (ty := .int) dX12_judge_2 rfl (by decide) rfl tw1200 rfl rfl rfl (fun _ => ⟨rfl, rfl⟩) qs188 ?_
  refine q_iload_n dX12_judge_5 rfl rfl ?_
  refine qx_iconst dX12_judge_6 rfl rfl ?_
  refine qx_iconst dX12_judge_7 rfl rfl ?_
  refine qx_invS [(0, v), (0, 0), (0, 3)] [(0, 3), (0, 0), (0, v)] rfl qM_X12_in dX12_judge_8 tw1362 rfl rfl rfl rfl (spX12_in) (fun r1 m1 p1 q1 => ?_)
  obtain ⟨p1e, ⟨p1f, p1⟩ | ⟨p1f, p1⟩⟩ := p1
  · rw [p1e, p1f]
    refine qx_if_ne (tgt := 16) dX12_judge_11 (by decide) (fun _ => ?_) (fun z => absurd z (by decide))
    refine q_aload_n dX12_judge_16 rfl rfl ?_
    refine q_aload_n dX12_judge_17 rfl rfl ?_
    refine q_getR (ci := 12) (k := 31) dX12_judge_18 rfl (by decide) rfl tw1214 (by decide) qs188 qw188_31 (by decide) ?_
    refine qx_iconst dX12_judge_21 rfl rfl ?_
    refine qx_invV (ci := 12) [(2, 205), (0, 0)] [(0, 0), (2, 205), (2, 188)] rfl qM_X12_lay dX12_judge_22 tw1470 rfl qs188 rfl rfl rfl rfl (l1 p1) (fun r2 m2 p2 q2 => ?_)
    refine qx_iconst dX12_judge_25 rfl rfl ?_
    refine qx_istore (L' := [(2, 188), (0, v), (0, x), (0, y), (0, z), (0, 0), (4, 0), (4, 0), (4, 0)]) dX12_judge_26 rfl rfl rfl ?_
    refine qx_bipush dX12_judge_28 rfl rfl ?_
    refine qx_istore (L' := [(2, 188), (0, v), (0, x), (0, y), (0, z), (0, 0), (0, (-2)), (4, 0), (4, 0)]) dX12_judge_30 rfl rfl rfl ?_
    refine qx_iconst dX12_judge_32 rfl rfl ?_
    refine qx_istore (L' := [(2, 188), (0, v), (0, x), (0, y), (0, z), (0, 0), (0, (-2)), (0, 0), (4, 0)]) dX12_judge_33 rfl rfl rfl ?_
    exact l2 p1 r2 m2 p2 q2
  · rw [p1e, p1f]
    refine qx_if_ne (tgt := 16) dX12_judge_11 (by decide) (fun z => absurd z (by decide)) (fun _ => ?_)
    refine qx_iconst dX12_judge_14 rfl rfl ?_
    exact q_iret dX12_judge_15 (qK_i (l3 p1))
theorem bkX12_judge_35 {b : Int} {mem : qm} {Q : Int → qm → Prop}
    {v x y z v5 v6 v7 : Int}
    {P2 : Int → qm → Prop}
    (l1 : v ≤ v7 → q_Ev yX12_allDebts cX12_allDebts 6 (some .int) 1 0 0 [(2, 188)] (q_sh0, q_rb b, mem) (qK (q_rb b) (P2)))
    {P3 : Int → qm → Int → qm → Prop}
    (l2 : v ≤ v7 → ∀ (r2 : Int), ∀ (m2 : qm), P2 r2 m2 → q_in32 r2 → q_Ev yX12_bring cX12_bring 5 none 1 0 0 [(2, 188), (2, 205), (0, 0)] (q_sh0, q_rb b, m2) (qK (q_rb b) (P3 r2 m2)))
    (o3 : v ≤ v7 → ∀ (r2 : Int), ∀ (m2 : qm), P2 r2 m2 → q_in32 r2 → ∀ (r3 : Int), ∀ (m3 : qm), P3 r2 m2 r3 m3 → q_in32 r3 → (0 ≤ (0 : Int) ∧ (0 : Int) < 16) ∧ (0 ≤ ((0 : Int) + 1) ∧ ((0 : Int) + 1) < 16))
    (l4 : v ≤ v7 → ∀ (r2 : Int), ∀ (m2 : qm), P2 r2 m2 → q_in32 r2 → ∀ (r3 : Int), ∀ (m3 : qm), P3 r2 m2 r3 m3 → q_in32 r3 → Q v6 (q_up (q_up (q_up (q_up (q_up m3 188 16 0) 199 (0 : Int) v5) 188 16 ((0 : Int) + 1)) 199 ((0 : Int) + 1) r2) 188 16 (((0 : Int) + 1) + 1)))
    {P7 : Int → qm → Prop}
    (l5 : v7 < v → v6 ≠ (-2) → q_Ev yX12_allDebts cX12_allDebts 6 (some .int) 1 0 0 [(2, 188)] (q_sh0, q_rb b, mem) (qK (q_rb b) (P7)))
    {P8 : Int → qm → Int → qm → Prop}
    (l6 : v7 < v → v6 ≠ (-2) → ∀ (r7 : Int), ∀ (m7 : qm), P7 r7 m7 → q_in32 r7 → q_Ev yX12_bring cX12_bring 5 none 1 0 0 [(2, 188), (2, 205), (0, 0)] (q_sh0, q_rb b, m7) (qK (q_rb b) (P8 r7 m7)))
    (o7 : v7 < v → v6 ≠ (-2) → ∀ (r7 : Int), ∀ (m7 : qm), P7 r7 m7 → q_in32 r7 → ∀ (r8 : Int), ∀ (m8 : qm), P8 r7 m7 r8 m8 → q_in32 r8 → (0 ≤ (0 : Int) ∧ (0 : Int) < 16) ∧ (0 ≤ ((0 : Int) + 1) ∧ ((0 : Int) + 1) < 16))
    (l8 : v7 < v → v6 ≠ (-2) → ∀ (r7 : Int), ∀ (m7 : qm), P7 r7 m7 → q_in32 r7 → ∀ (r8 : Int), ∀ (m8 : qm), P8 r7 m7 r8 m8 → q_in32 r8 → Q v6 (q_up (q_up (q_up (q_up (q_up m8 188 16 0) 199 (0 : Int) v5) 188 16 ((0 : Int) + 1)) 199 ((0 : Int) + 1) r7) 188 16 (((0 : Int) + 1) + 1)))
    (o9 : v7 < v → v6 = (-2) → v7 ≠ 0 → v7 ≠ 1 → z < 0 → q_in32 (v7 + 1))
    (l10 : v7 < v → v6 = (-2) → v7 ≠ 0 → v7 ≠ 1 → z < 0 → q_At yX12_judge cX12_judge 9 (some .int) 4 0 0 (qK (q_rb b) Q) 35 [(2, 188), (0, v), (0, x), (0, y), (0, z), (0, v5), (0, v7), (0, (v7 + 1)), (4, 0)] [] (q_sh0, q_rb b, mem))
    {P14 : Int → qm → Prop}
    (l11 : v7 < v → v6 = (-2) → v7 ≠ 0 → v7 ≠ 1 → 0 ≤ z → q_Ev yX12_refusal cX12_refusal 4 (some .int) 3 0 0 [(2, 188), (0, (q_oidiv z 1000)), (0, (q_oirem (q_oidiv z 100) 10)), (0, (q_oirem z 100))] (q_sh0, q_rb b, mem) (qK (q_rb b) (P14)))
    {P16 : Int → qm → Int → qm → Prop}
    (l12 : v7 < v → v6 = (-2) → v7 ≠ 0 → v7 ≠ 1 → 0 ≤ z → ∀ (r14 : Int), ∀ (m14 : qm), P14 r14 m14 → q_in32 r14 → 0 ≤ r14 → q_Ev yX12_make cX12_make 6 none 3 0 0 [(2, 188), (0, (q_oidiv z 1000)), (0, (q_oirem (q_oidiv z 100) 10)), (0, (q_oirem z 100))] (q_sh0, q_rb b, m14) (qK (q_rb b) (P16 r14 m14)))
    (o13 : v7 < v → v6 = (-2) → v7 ≠ 0 → v7 ≠ 1 → 0 ≤ z → ∀ (r14 : Int), ∀ (m14 : qm), P14 r14 m14 → q_in32 r14 → 0 ≤ r14 → ∀ (r16 : Int), ∀ (m16 : qm), P16 r14 m14 r16 m16 → q_in32 r16 → q_in32 (v5 + (q_oirem z 100)) ∧ q_in32 (v7 + 1))
    (l14 : v7 < v → v6 = (-2) → v7 ≠ 0 → v7 ≠ 1 → 0 ≤ z → ∀ (r14 : Int), ∀ (m14 : qm), P14 r14 m14 → q_in32 r14 → 0 ≤ r14 → ∀ (r16 : Int), ∀ (m16 : qm), P16 r14 m14 r16 m16 → q_in32 r16 → q_At yX12_judge cX12_judge 9 (some .int) 4 0 0 (qK (q_rb b) Q) 35 [(2, 188), (0, v), (0, x), (0, y), (0, z), (0, (v5 + (q_oirem z 100))), (0, v6), (0, (v7 + 1)), (4, 0)] [] (q_sh0, q_rb b, m16))
    (o15 : v7 < v → v6 = (-2) → v7 ≠ 0 → v7 ≠ 1 → 0 ≤ z → ∀ (r14 : Int), ∀ (m14 : qm), P14 r14 m14 → q_in32 r14 → r14 < 0 → q_in32 (v7 + 1))
    (l16 : v7 < v → v6 = (-2) → v7 ≠ 0 → v7 ≠ 1 → 0 ≤ z → ∀ (r14 : Int), ∀ (m14 : qm), P14 r14 m14 → q_in32 r14 → r14 < 0 → q_At yX12_judge cX12_judge 9 (some .int) 4 0 0 (qK (q_rb b) Q) 35 [(2, 188), (0, v), (0, x), (0, y), (0, z), (0, v5), (0, v7), (0, (v7 + 1)), (4, 0)] [] (q_sh0, q_rb b, m14))
    (o17 : v7 < v → v6 = (-2) → v7 ≠ 0 → v7 = 1 → y < 0 → q_in32 (v7 + 1))
    (l18 : v7 < v → v6 = (-2) → v7 ≠ 0 → v7 = 1 → y < 0 → q_At yX12_judge cX12_judge 9 (some .int) 4 0 0 (qK (q_rb b) Q) 35 [(2, 188), (0, v), (0, x), (0, y), (0, z), (0, v5), (0, v7), (0, (v7 + 1)), (4, 0)] [] (q_sh0, q_rb b, mem))
    {P18 : Int → qm → Prop}
    (l19 : v7 < v → v6 = (-2) → v7 ≠ 0 → v7 = 1 → 0 ≤ y → q_Ev yX12_refusal cX12_refusal 4 (some .int) 3 0 0 [(2, 188), (0, (q_oidiv y 1000)), (0, (q_oirem (q_oidiv y 100) 10)), (0, (q_oirem y 100))] (q_sh0, q_rb b, mem) (qK (q_rb b) (P18)))
    {P20 : Int → qm → Int → qm → Prop}
    (l20 : v7 < v → v6 = (-2) → v7 ≠ 0 → v7 = 1 → 0 ≤ y → ∀ (r18 : Int), ∀ (m18 : qm), P18 r18 m18 → q_in32 r18 → 0 ≤ r18 → q_Ev yX12_make cX12_make 6 none 3 0 0 [(2, 188), (0, (q_oidiv y 1000)), (0, (q_oirem (q_oidiv y 100) 10)), (0, (q_oirem y 100))] (q_sh0, q_rb b, m18) (qK (q_rb b) (P20 r18 m18)))
    (o21 : v7 < v → v6 = (-2) → v7 ≠ 0 → v7 = 1 → 0 ≤ y → ∀ (r18 : Int), ∀ (m18 : qm), P18 r18 m18 → q_in32 r18 → 0 ≤ r18 → ∀ (r20 : Int), ∀ (m20 : qm), P20 r18 m18 r20 m20 → q_in32 r20 → q_in32 (v5 + (q_oirem y 100)) ∧ q_in32 (v7 + 1))
    (l22 : v7 < v → v6 = (-2) → v7 ≠ 0 → v7 = 1 → 0 ≤ y → ∀ (r18 : Int), ∀ (m18 : qm), P18 r18 m18 → q_in32 r18 → 0 ≤ r18 → ∀ (r20 : Int), ∀ (m20 : qm), P20 r18 m18 r20 m20 → q_in32 r20 → q_At yX12_judge cX12_judge 9 (some .int) 4 0 0 (qK (q_rb b) Q) 35 [(2, 188), (0, v), (0, x), (0, y), (0, z), (0, (v5 + (q_oirem y 100))), (0, v6), (0, (v7 + 1)), (4, 0)] [] (q_sh0, q_rb b, m20))
    (o23 : v7 < v → v6 = (-2) → v7 ≠ 0 → v7 = 1 → 0 ≤ y → ∀ (r18 : Int), ∀ (m18 : qm), P18 r18 m18 → q_in32 r18 → r18 < 0 → q_in32 (v7 + 1))
    (l24 : v7 < v → v6 = (-2) → v7 ≠ 0 → v7 = 1 → 0 ≤ y → ∀ (r18 : Int), ∀ (m18 : qm), P18 r18 m18 → q_in32 r18 → r18 < 0 → q_At yX12_judge cX12_judge 9 (some .int) 4 0 0 (qK (q_rb b) Q) 35 [(2, 188), (0, v), (0, x), (0, y), (0, z), (0, v5), (0, v7), (0, (v7 + 1)), (4, 0)] [] (q_sh0, q_rb b, m18))
    (o25 : v7 < v → v6 = (-2) → v7 = 0 → x < 0 → q_in32 (v7 + 1))
    (l26 : v7 < v → v6 = (-2) → v7 = 0 → x < 0 → q_At yX12_judge cX12_judge 9 (some .int) 4 0 0 (qK (q_rb b) Q) 35 [(2, 188), (0, v), (0, x), (0, y), (0, z), (0, v5), (0, v7), (0, (v7 + 1)), (4, 0)] [] (q_sh0, q_rb b, mem))
    {P22 : Int → qm → Prop}
    (l27 : v7 < v → v6 = (-2) → v7 = 0 → 0 ≤ x → q_Ev yX12_refusal cX12_refusal 4 (some .int) 3 0 0 [(2, 188), (0, (q_oidiv x 1000)), (0, (q_oirem (q_oidiv x 100) 10)), (0, (q_oirem x 100))] (q_sh0, q_rb b, mem) (qK (q_rb b) (P22)))
    {P24 : Int → qm → Int → qm → Prop}
    (l28 : v7 < v → v6 = (-2) → v7 = 0 → 0 ≤ x → ∀ (r22 : Int), ∀ (m22 : qm), P22 r22 m22 → q_in32 r22 → 0 ≤ r22 → q_Ev yX12_make cX12_make 6 none 3 0 0 [(2, 188), (0, (q_oidiv x 1000)), (0, (q_oirem (q_oidiv x 100) 10)), (0, (q_oirem x 100))] (q_sh0, q_rb b, m22) (qK (q_rb b) (P24 r22 m22)))
    (o29 : v7 < v → v6 = (-2) → v7 = 0 → 0 ≤ x → ∀ (r22 : Int), ∀ (m22 : qm), P22 r22 m22 → q_in32 r22 → 0 ≤ r22 → ∀ (r24 : Int), ∀ (m24 : qm), P24 r22 m22 r24 m24 → q_in32 r24 → q_in32 (v5 + (q_oirem x 100)) ∧ q_in32 (v7 + 1))
    (l30 : v7 < v → v6 = (-2) → v7 = 0 → 0 ≤ x → ∀ (r22 : Int), ∀ (m22 : qm), P22 r22 m22 → q_in32 r22 → 0 ≤ r22 → ∀ (r24 : Int), ∀ (m24 : qm), P24 r22 m22 r24 m24 → q_in32 r24 → q_At yX12_judge cX12_judge 9 (some .int) 4 0 0 (qK (q_rb b) Q) 35 [(2, 188), (0, v), (0, x), (0, y), (0, z), (0, (v5 + (q_oirem x 100))), (0, v6), (0, (v7 + 1)), (4, 0)] [] (q_sh0, q_rb b, m24))
    (o31 : v7 < v → v6 = (-2) → v7 = 0 → 0 ≤ x → ∀ (r22 : Int), ∀ (m22 : qm), P22 r22 m22 → q_in32 r22 → r22 < 0 → q_in32 (v7 + 1))
    (l32 : v7 < v → v6 = (-2) → v7 = 0 → 0 ≤ x → ∀ (r22 : Int), ∀ (m22 : qm), P22 r22 m22 → q_in32 r22 → r22 < 0 → q_At yX12_judge cX12_judge 9 (some .int) 4 0 0 (qK (q_rb b) Q) 35 [(2, 188), (0, v), (0, x), (0, y), (0, z), (0, v5), (0, v7), (0, (v7 + 1)), (4, 0)] [] (q_sh0, q_rb b, m22)) :
    q_At yX12_judge cX12_judge 9 (some .int) 4 0 0 (qK (q_rb b) Q) 35 [(2, 188), (0, v), (0, x), (0, y), (0, z), (0, v5), (0, v6), (0, v7), (4, 0)] [] (q_sh0, q_rb b, mem) := by
  refine q_iload dX12_judge_35 rfl ?_
  refine q_iload_n dX12_judge_37 rfl rfl ?_
  refine qx_icmp_ge (tgt := 148) dX12_judge_38 (by decide) (fun c1 => ?_) (fun c1 => ?_)
  · skip
    refine q_aload_n dX12_judge_148 rfl rfl ?_
    refine qx_invV (ci := 12) [] [(2, 188)] rfl qM_X12_allDebts dX12_judge_149 tw1529 rfl qs188 rfl rfl rfl rfl (l1 c1) (fun r2 m2 p2 q2 => ?_)
    refine qx_istore (L' := [(2, 188), (0, v), (0, x), (0, y), (0, z), (0, v5), (0, v6), (0, r2), (4, 0)]) dX12_judge_152 rfl rfl rfl ?_
    refine q_aload_n dX12_judge_154 rfl rfl ?_
    refine q_aload_n dX12_judge_155 rfl rfl ?_
    refine q_getR (ci := 12) (k := 31) dX12_judge_156 rfl (by decide) rfl tw1214 (by decide) qs188 qw188_31 (by decide) ?_
    refine qx_iconst dX12_judge_159 rfl rfl ?_
    refine qx_invV (ci := 12) [(2, 205), (0, 0)] [(0, 0), (2, 205), (2, 188)] rfl qM_X12_bring dX12_judge_160 tw1521 rfl qs188 rfl rfl rfl rfl (l2 c1 r2 m2 p2 q2) (fun r3 m3 p3 q3 => ?_)
    refine q_aload_n dX12_judge_163 rfl rfl ?_
    refine qx_iconst dX12_judge_164 rfl rfl ?_
    refine q_putI (ci := 12) (k := 16) (kI := 16) (ty := .int) dX12_judge_165 rfl (by decide) rfl tw1199 rfl rfl rfl (fun _ => ⟨rfl, rfl⟩) qs188 ?_
    refine q_aload_n dX12_judge_168 rfl rfl ?_
    refine q_iload dX12_judge_169 rfl ?_
    refine qx_invV (ci := 12) [(0, v5)] [(0, v5), (2, 188)] rfl qM_X12_tell dX12_judge_171 tw1509 rfl qs188 rfl rfl rfl rfl (spX12_tell (by first | exact (o3 c1 r2 m2 p2 q2 r3 m3 p3 q3).1 | (simp only [q_up, Int.reduceEq, false_and, true_and, and_true, and_false, ite_false, ite_true, if_true, if_false]; exact (o3 c1 r2 m2 p2 q2 r3 m3 p3 q3).1))) (fun r4 m4 p4 q4 => ?_)
    obtain rfl := p4
    refine q_aload_n dX12_judge_174 rfl rfl ?_
    refine q_iload dX12_judge_175 rfl ?_
    refine qx_invV (ci := 12) [(0, r2)] [(0, r2), (2, 188)] rfl qM_X12_tell dX12_judge_177 tw1509 rfl qs188 rfl rfl rfl rfl (spX12_tell (by first | exact (o3 c1 r2 m2 p2 q2 r3 m3 p3 q3).2 | (simp only [q_up, Int.reduceEq, false_and, true_and, and_true, and_false, ite_false, ite_true, if_true, if_false]; exact (o3 c1 r2 m2 p2 q2 r3 m3 p3 q3).2))) (fun r5 m5 p5 q5 => ?_)
    obtain rfl := p5
    refine q_iload dX12_judge_180 rfl ?_
    exact q_iret dX12_judge_182 (qK_i (l4 c1 r2 m2 p2 q2 r3 m3 p3 q3))
  · skip
    refine q_iload dX12_judge_41 rfl ?_
    refine qx_bipush dX12_judge_43 rfl rfl ?_
    refine qx_icmp_ne (tgt := 148) dX12_judge_45 (by decide) (fun c6 => ?_) (fun c6 => ?_)
    · skip
      refine q_aload_n dX12_judge_148 rfl rfl ?_
      refine qx_invV (ci := 12) [] [(2, 188)] rfl qM_X12_allDebts dX12_judge_149 tw1529 rfl qs188 rfl rfl rfl rfl (l5 c1 c6) (fun r7 m7 p7 q7 => ?_)
      refine qx_istore (L' := [(2, 188), (0, v), (0, x), (0, y), (0, z), (0, v5), (0, v6), (0, r7), (4, 0)]) dX12_judge_152 rfl rfl rfl ?_
      refine q_aload_n dX12_judge_154 rfl rfl ?_
      refine q_aload_n dX12_judge_155 rfl rfl ?_
      refine q_getR (ci := 12) (k := 31) dX12_judge_156 rfl (by decide) rfl tw1214 (by decide) qs188 qw188_31 (by decide) ?_
      refine qx_iconst dX12_judge_159 rfl rfl ?_
      refine qx_invV (ci := 12) [(2, 205), (0, 0)] [(0, 0), (2, 205), (2, 188)] rfl qM_X12_bring dX12_judge_160 tw1521 rfl qs188 rfl rfl rfl rfl (l6 c1 c6 r7 m7 p7 q7) (fun r8 m8 p8 q8 => ?_)
      refine q_aload_n dX12_judge_163 rfl rfl ?_
      refine qx_iconst dX12_judge_164 rfl rfl ?_
      refine q_putI (ci := 12) (k := 16) (kI := 16) (ty := .int) dX12_judge_165 rfl (by decide) rfl tw1199 rfl rfl rfl (fun _ => ⟨rfl, rfl⟩) qs188 ?_
      refine q_aload_n dX12_judge_168 rfl rfl ?_
      refine q_iload dX12_judge_169 rfl ?_
      refine qx_invV (ci := 12) [(0, v5)] [(0, v5), (2, 188)] rfl qM_X12_tell dX12_judge_171 tw1509 rfl qs188 rfl rfl rfl rfl (spX12_tell (by first | exact (o7 c1 c6 r7 m7 p7 q7 r8 m8 p8 q8).1 | (simp only [q_up, Int.reduceEq, false_and, true_and, and_true, and_false, ite_false, ite_true, if_true, if_false]; exact (o7 c1 c6 r7 m7 p7 q7 r8 m8 p8 q8).1))) (fun r9 m9 p9 q9 => ?_)
      obtain rfl := p9
      refine q_aload_n dX12_judge_174 rfl rfl ?_
      refine q_iload dX12_judge_175 rfl ?_
      refine qx_invV (ci := 12) [(0, r7)] [(0, r7), (2, 188)] rfl qM_X12_tell dX12_judge_177 tw1509 rfl qs188 rfl rfl rfl rfl (spX12_tell (by first | exact (o7 c1 c6 r7 m7 p7 q7 r8 m8 p8 q8).2 | (simp only [q_up, Int.reduceEq, false_and, true_and, and_true, and_false, ite_false, ite_true, if_true, if_false]; exact (o7 c1 c6 r7 m7 p7 q7 r8 m8 p8 q8).2))) (fun r10 m10 p10 q10 => ?_)
      obtain rfl := p10
      refine q_iload dX12_judge_180 rfl ?_
      exact q_iret dX12_judge_182 (qK_i (l8 c1 c6 r7 m7 p7 q7 r8 m8 p8 q8))
    · skip
      refine q_iload dX12_judge_48 rfl ?_
      refine qx_if_ne (tgt := 57) dX12_judge_50 (by decide) (fun c11 => ?_) (fun c11 => ?_)
      · skip
        refine q_iload dX12_judge_57 rfl ?_
        refine qx_iconst dX12_judge_59 rfl rfl ?_
        refine qx_icmp_ne (tgt := 67) dX12_judge_60 (by decide) (fun c12 => ?_) (fun c12 => ?_)
        · skip
          refine q_iload dX12_judge_67 rfl ?_
          refine qx_istore (L' := [(2, 188), (0, v), (0, x), (0, y), (0, z), (0, v5), (0, v6), (0, v7), (0, z)]) dX12_judge_69 rfl rfl rfl ?_
          refine q_iload dX12_judge_71 rfl ?_
          refine qx_if_lt (tgt := 102) dX12_judge_73 (by decide) (fun c13 => ?_) (fun c13 => ?_)
          · skip
            refine q_iload dX12_judge_102 rfl ?_
            refine qx_istore (L' := [(2, 188), (0, v), (0, x), (0, y), (0, z), (0, v5), (0, v7), (0, v7), (0, z)]) dX12_judge_104 rfl rfl rfl ?_
            refine q_goto (tgt := 142) dX12_judge_106 (by decide) ?_
            refine qx_iinc (L' := [(2, 188), (0, v), (0, x), (0, y), (0, z), (0, v5), (0, v7), (0, (v7 + 1)), (0, z)]) dX12_judge_142 rfl rfl rfl (o9 c1 c6 c11 c12 c13) rfl ?_
            refine q_goto (tgt := 35) dX12_judge_145 (by decide) ?_
            refine q_kill (L' := [(2, 188), (0, v), (0, x), (0, y), (0, z), (0, v5), (0, v7), (0, (v7 + 1)), (4, 0)]) 8 rfl ?_
            exact l10 c1 c6 c11 c12 c13
          · skip
            refine q_aload_n dX12_judge_76 rfl rfl ?_
            refine q_iload dX12_judge_77 rfl ?_
            refine qx_sipush dX12_judge_79 rfl rfl ?_
            refine q_idiv dX12_judge_82 (by decide) ?_
            refine q_iload dX12_judge_83 rfl ?_
            refine qx_bipush dX12_judge_85 rfl rfl ?_
            refine q_idiv dX12_judge_87 (by decide) ?_
            refine qx_bipush dX12_judge_88 rfl rfl ?_
            refine q_irem dX12_judge_90 (by decide) ?_
            refine q_iload dX12_judge_91 rfl ?_
            refine qx_bipush dX12_judge_93 rfl rfl ?_
            refine q_irem dX12_judge_95 (by decide) ?_
            refine qx_invV (ci := 12) [(0, (q_oidiv z 1000)), (0, (q_oirem (q_oidiv z 100) 10)), (0, (q_oirem z 100))] [(0, (q_oirem z 100)), (0, (q_oirem (q_oidiv z 100) 10)), (0, (q_oidiv z 1000)), (2, 188)] rfl qM_X12_refusal dX12_judge_96 tw1478 rfl qs188 rfl rfl rfl rfl (l11 c1 c6 c11 c12 c13) (fun r14 m14 p14 q14 => ?_)
            refine qx_if_ge (tgt := 109) dX12_judge_99 (by decide) (fun c15 => ?_) (fun c15 => ?_)
            · skip
              refine q_aload_n dX12_judge_109 rfl rfl ?_
              refine q_iload dX12_judge_110 rfl ?_
              refine qx_sipush dX12_judge_112 rfl rfl ?_
              refine q_idiv dX12_judge_115 (by decide) ?_
              refine q_iload dX12_judge_116 rfl ?_
              refine qx_bipush dX12_judge_118 rfl rfl ?_
              refine q_idiv dX12_judge_120 (by decide) ?_
              refine qx_bipush dX12_judge_121 rfl rfl ?_
              refine q_irem dX12_judge_123 (by decide) ?_
              refine q_iload dX12_judge_124 rfl ?_
              refine qx_bipush dX12_judge_126 rfl rfl ?_
              refine q_irem dX12_judge_128 (by decide) ?_
              refine qx_invV (ci := 12) [(0, (q_oidiv z 1000)), (0, (q_oirem (q_oidiv z 100) 10)), (0, (q_oirem z 100))] [(0, (q_oirem z 100)), (0, (q_oirem (q_oidiv z 100) 10)), (0, (q_oidiv z 1000)), (2, 188)] rfl qM_X12_make dX12_judge_129 tw1482 rfl qs188 rfl rfl rfl rfl (l12 c1 c6 c11 c12 c13 r14 m14 p14 q14 c15) (fun r16 m16 p16 q16 => ?_)
              refine q_iload dX12_judge_132 rfl ?_
              refine q_iload dX12_judge_134 rfl ?_
              refine qx_bipush dX12_judge_136 rfl rfl ?_
              refine q_irem dX12_judge_138 (by decide) ?_
              refine qx_iadd dX12_judge_139 (o13 c1 c6 c11 c12 c13 r14 m14 p14 q14 c15 r16 m16 p16 q16).1 ?_
              refine qx_istore (L' := [(2, 188), (0, v), (0, x), (0, y), (0, z), (0, (v5 + (q_oirem z 100))), (0, v6), (0, v7), (0, z)]) dX12_judge_140 rfl rfl rfl ?_
              refine qx_iinc (L' := [(2, 188), (0, v), (0, x), (0, y), (0, z), (0, (v5 + (q_oirem z 100))), (0, v6), (0, (v7 + 1)), (0, z)]) dX12_judge_142 rfl rfl rfl (o13 c1 c6 c11 c12 c13 r14 m14 p14 q14 c15 r16 m16 p16 q16).2 rfl ?_
              refine q_goto (tgt := 35) dX12_judge_145 (by decide) ?_
              refine q_kill (L' := [(2, 188), (0, v), (0, x), (0, y), (0, z), (0, (v5 + (q_oirem z 100))), (0, v6), (0, (v7 + 1)), (4, 0)]) 8 rfl ?_
              exact l14 c1 c6 c11 c12 c13 r14 m14 p14 q14 c15 r16 m16 p16 q16
            · skip
              refine q_iload dX12_judge_102 rfl ?_
              refine qx_istore (L' := [(2, 188), (0, v), (0, x), (0, y), (0, z), (0, v5), (0, v7), (0, v7), (0, z)]) dX12_judge_104 rfl rfl rfl ?_
              refine q_goto (tgt := 142) dX12_judge_106 (by decide) ?_
              refine qx_iinc (L' := [(2, 188), (0, v), (0, x), (0, y), (0, z), (0, v5), (0, v7), (0, (v7 + 1)), (0, z)]) dX12_judge_142 rfl rfl rfl (o15 c1 c6 c11 c12 c13 r14 m14 p14 q14 c15) rfl ?_
              refine q_goto (tgt := 35) dX12_judge_145 (by decide) ?_
              refine q_kill (L' := [(2, 188), (0, v), (0, x), (0, y), (0, z), (0, v5), (0, v7), (0, (v7 + 1)), (4, 0)]) 8 rfl ?_
              exact l16 c1 c6 c11 c12 c13 r14 m14 p14 q14 c15
        · skip
          refine q_iload_n dX12_judge_63 rfl rfl ?_
          refine q_goto (tgt := 69) dX12_judge_64 (by decide) ?_
          refine qx_istore (L' := [(2, 188), (0, v), (0, x), (0, y), (0, z), (0, v5), (0, v6), (0, v7), (0, y)]) dX12_judge_69 rfl rfl rfl ?_
          refine q_iload dX12_judge_71 rfl ?_
          refine qx_if_lt (tgt := 102) dX12_judge_73 (by decide) (fun c17 => ?_) (fun c17 => ?_)
          · skip
            refine q_iload dX12_judge_102 rfl ?_
            refine qx_istore (L' := [(2, 188), (0, v), (0, x), (0, y), (0, z), (0, v5), (0, v7), (0, v7), (0, y)]) dX12_judge_104 rfl rfl rfl ?_
            refine q_goto (tgt := 142) dX12_judge_106 (by decide) ?_
            refine qx_iinc (L' := [(2, 188), (0, v), (0, x), (0, y), (0, z), (0, v5), (0, v7), (0, (v7 + 1)), (0, y)]) dX12_judge_142 rfl rfl rfl (o17 c1 c6 c11 c12 c17) rfl ?_
            refine q_goto (tgt := 35) dX12_judge_145 (by decide) ?_
            refine q_kill (L' := [(2, 188), (0, v), (0, x), (0, y), (0, z), (0, v5), (0, v7), (0, (v7 + 1)), (4, 0)]) 8 rfl ?_
            exact l18 c1 c6 c11 c12 c17
          · skip
            refine q_aload_n dX12_judge_76 rfl rfl ?_
            refine q_iload dX12_judge_77 rfl ?_
            refine qx_sipush dX12_judge_79 rfl rfl ?_
            refine q_idiv dX12_judge_82 (by decide) ?_
            refine q_iload dX12_judge_83 rfl ?_
            refine qx_bipush dX12_judge_85 rfl rfl ?_
            refine q_idiv dX12_judge_87 (by decide) ?_
            refine qx_bipush dX12_judge_88 rfl rfl ?_
            refine q_irem dX12_judge_90 (by decide) ?_
            refine q_iload dX12_judge_91 rfl ?_
            refine qx_bipush dX12_judge_93 rfl rfl ?_
            refine q_irem dX12_judge_95 (by decide) ?_
            refine qx_invV (ci := 12) [(0, (q_oidiv y 1000)), (0, (q_oirem (q_oidiv y 100) 10)), (0, (q_oirem y 100))] [(0, (q_oirem y 100)), (0, (q_oirem (q_oidiv y 100) 10)), (0, (q_oidiv y 1000)), (2, 188)] rfl qM_X12_refusal dX12_judge_96 tw1478 rfl qs188 rfl rfl rfl rfl (l19 c1 c6 c11 c12 c17) (fun r18 m18 p18 q18 => ?_)
            refine qx_if_ge (tgt := 109) dX12_judge_99 (by decide) (fun c19 => ?_) (fun c19 => ?_)
            · skip
              refine q_aload_n dX12_judge_109 rfl rfl ?_
              refine q_iload dX12_judge_110 rfl ?_
              refine qx_sipush dX12_judge_112 rfl rfl ?_
              refine q_idiv dX12_judge_115 (by decide) ?_
              refine q_iload dX12_judge_116 rfl ?_
              refine qx_bipush dX12_judge_118 rfl rfl ?_
              refine q_idiv dX12_judge_120 (by decide) ?_
              refine qx_bipush dX12_judge_121 rfl rfl ?_
              refine q_irem dX12_judge_123 (by decide) ?_
              refine q_iload dX12_judge_124 rfl ?_
              refine qx_bipush dX12_judge_126 rfl rfl ?_
              refine q_irem dX12_judge_128 (by decide) ?_
              refine qx_invV (ci := 12) [(0, (q_oidiv y 1000)), (0, (q_oirem (q_oidiv y 100) 10)), (0, (q_oirem y 100))] [(0, (q_oirem y 100)), (0, (q_oirem (q_oidiv y 100) 10)), (0, (q_oidiv y 1000)), (2, 188)] rfl qM_X12_make dX12_judge_129 tw1482 rfl qs188 rfl rfl rfl rfl (l20 c1 c6 c11 c12 c17 r18 m18 p18 q18 c19) (fun r20 m20 p20 q20 => ?_)
              refine q_iload dX12_judge_132 rfl ?_
              refine q_iload dX12_judge_134 rfl ?_
              refine qx_bipush dX12_judge_136 rfl rfl ?_
              refine q_irem dX12_judge_138 (by decide) ?_
              refine qx_iadd dX12_judge_139 (o21 c1 c6 c11 c12 c17 r18 m18 p18 q18 c19 r20 m20 p20 q20).1 ?_
              refine qx_istore (L' := [(2, 188), (0, v), (0, x), (0, y), (0, z), (0, (v5 + (q_oirem y 100))), (0, v6), (0, v7), (0, y)]) dX12_judge_140 rfl rfl rfl ?_
              refine qx_iinc (L' := [(2, 188), (0, v), (0, x), (0, y), (0, z), (0, (v5 + (q_oirem y 100))), (0, v6), (0, (v7 + 1)), (0, y)]) dX12_judge_142 rfl rfl rfl (o21 c1 c6 c11 c12 c17 r18 m18 p18 q18 c19 r20 m20 p20 q20).2 rfl ?_
              refine q_goto (tgt := 35) dX12_judge_145 (by decide) ?_
              refine q_kill (L' := [(2, 188), (0, v), (0, x), (0, y), (0, z), (0, (v5 + (q_oirem y 100))), (0, v6), (0, (v7 + 1)), (4, 0)]) 8 rfl ?_
              exact l22 c1 c6 c11 c12 c17 r18 m18 p18 q18 c19 r20 m20 p20 q20
            · skip
              refine q_iload dX12_judge_102 rfl ?_
              refine qx_istore (L' := [(2, 188), (0, v), (0, x), (0, y), (0, z), (0, v5), (0, v7), (0, v7), (0, y)]) dX12_judge_104 rfl rfl rfl ?_
              refine q_goto (tgt := 142) dX12_judge_106 (by decide) ?_
              refine qx_iinc (L' := [(2, 188), (0, v), (0, x), (0, y), (0, z), (0, v5), (0, v7), (0, (v7 + 1)), (0, y)]) dX12_judge_142 rfl rfl rfl (o23 c1 c6 c11 c12 c17 r18 m18 p18 q18 c19) rfl ?_
              refine q_goto (tgt := 35) dX12_judge_145 (by decide) ?_
              refine q_kill (L' := [(2, 188), (0, v), (0, x), (0, y), (0, z), (0, v5), (0, v7), (0, (v7 + 1)), (4, 0)]) 8 rfl ?_
              exact l24 c1 c6 c11 c12 c17 r18 m18 p18 q18 c19
      · skip
        refine q_iload_n dX12_judge_53 rfl rfl ?_
        refine q_goto (tgt := 69) dX12_judge_54 (by decide) ?_
        refine qx_istore (L' := [(2, 188), (0, v), (0, x), (0, y), (0, z), (0, v5), (0, v6), (0, v7), (0, x)]) dX12_judge_69 rfl rfl rfl ?_
        refine q_iload dX12_judge_71 rfl ?_
        refine qx_if_lt (tgt := 102) dX12_judge_73 (by decide) (fun c21 => ?_) (fun c21 => ?_)
        · skip
          refine q_iload dX12_judge_102 rfl ?_
          refine qx_istore (L' := [(2, 188), (0, v), (0, x), (0, y), (0, z), (0, v5), (0, v7), (0, v7), (0, x)]) dX12_judge_104 rfl rfl rfl ?_
          refine q_goto (tgt := 142) dX12_judge_106 (by decide) ?_
          refine qx_iinc (L' := [(2, 188), (0, v), (0, x), (0, y), (0, z), (0, v5), (0, v7), (0, (v7 + 1)), (0, x)]) dX12_judge_142 rfl rfl rfl (o25 c1 c6 c11 c21) rfl ?_
          refine q_goto (tgt := 35) dX12_judge_145 (by decide) ?_
          refine q_kill (L' := [(2, 188), (0, v), (0, x), (0, y), (0, z), (0, v5), (0, v7), (0, (v7 + 1)), (4, 0)]) 8 rfl ?_
          exact l26 c1 c6 c11 c21
        · skip
          refine q_aload_n dX12_judge_76 rfl rfl ?_
          refine q_iload dX12_judge_77 rfl ?_
          refine qx_sipush dX12_judge_79 rfl rfl ?_
          refine q_idiv dX12_judge_82 (by decide) ?_
          refine q_iload dX12_judge_83 rfl ?_
          refine qx_bipush dX12_judge_85 rfl rfl ?_
          refine q_idiv dX12_judge_87 (by decide) ?_
          refine qx_bipush dX12_judge_88 rfl rfl ?_
          refine q_irem dX12_judge_90 (by decide) ?_
          refine q_iload dX12_judge_91 rfl ?_
          refine qx_bipush dX12_judge_93 rfl rfl ?_
          refine q_irem dX12_judge_95 (by decide) ?_
          refine qx_invV (ci := 12) [(0, (q_oidiv x 1000)), (0, (q_oirem (q_oidiv x 100) 10)), (0, (q_oirem x 100))] [(0, (q_oirem x 100)), (0, (q_oirem (q_oidiv x 100) 10)), (0, (q_oidiv x 1000)), (2, 188)] rfl qM_X12_refusal dX12_judge_96 tw1478 rfl qs188 rfl rfl rfl rfl (l27 c1 c6 c11 c21) (fun r22 m22 p22 q22 => ?_)
          refine qx_if_ge (tgt := 109) dX12_judge_99 (by decide) (fun c23 => ?_) (fun c23 => ?_)
          · skip
            refine q_aload_n dX12_judge_109 rfl rfl ?_
            refine q_iload dX12_judge_110 rfl ?_
            refine qx_sipush dX12_judge_112 rfl rfl ?_
            refine q_idiv dX12_judge_115 (by decide) ?_
            refine q_iload dX12_judge_116 rfl ?_
            refine qx_bipush dX12_judge_118 rfl rfl ?_
            refine q_idiv dX12_judge_120 (by decide) ?_
            refine qx_bipush dX12_judge_121 rfl rfl ?_
            refine q_irem dX12_judge_123 (by decide) ?_
            refine q_iload dX12_judge_124 rfl ?_
            refine qx_bipush dX12_judge_126 rfl rfl ?_
            refine q_irem dX12_judge_128 (by decide) ?_
            refine qx_invV (ci := 12) [(0, (q_oidiv x 1000)), (0, (q_oirem (q_oidiv x 100) 10)), (0, (q_oirem x 100))] [(0, (q_oirem x 100)), (0, (q_oirem (q_oidiv x 100) 10)), (0, (q_oidiv x 1000)), (2, 188)] rfl qM_X12_make dX12_judge_129 tw1482 rfl qs188 rfl rfl rfl rfl (l28 c1 c6 c11 c21 r22 m22 p22 q22 c23) (fun r24 m24 p24 q24 => ?_)
            refine q_iload dX12_judge_132 rfl ?_
            refine q_iload dX12_judge_134 rfl ?_
            refine qx_bipush dX12_judge_136 rfl rfl ?_
            refine q_irem dX12_judge_138 (by decide) ?_
            refine qx_iadd dX12_judge_139 (o29 c1 c6 c11 c21 r22 m22 p22 q22 c23 r24 m24 p24 q24).1 ?_
            refine qx_istore (L' := [(2, 188), (0, v), (0, x), (0, y), (0, z), (0, (v5 + (q_oirem x 100))), (0, v6), (0, v7), (0, x)]) dX12_judge_140 rfl rfl rfl ?_
            refine qx_iinc (L' := [(2, 188), (0, v), (0, x), (0, y), (0, z), (0, (v5 + (q_oirem x 100))), (0, v6), (0, (v7 + 1)), (0, x)]) dX12_judge_142 rfl rfl rfl (o29 c1 c6 c11 c21 r22 m22 p22 q22 c23 r24 m24 p24 q24).2 rfl ?_
            refine q_goto (tgt := 35) dX12_judge_145 (by decide) ?_
            refine q_kill (L' := [(2, 188), (0, v), (0, x), (0, y), (0, z), (0, (v5 + (q_oirem x 100))), (0, v6), (0, (v7 + 1)), (4, 0)]) 8 rfl ?_
            exact l30 c1 c6 c11 c21 r22 m22 p22 q22 c23 r24 m24 p24 q24
          · skip
            refine q_iload dX12_judge_102 rfl ?_
            refine qx_istore (L' := [(2, 188), (0, v), (0, x), (0, y), (0, z), (0, v5), (0, v7), (0, v7), (0, x)]) dX12_judge_104 rfl rfl rfl ?_
            refine q_goto (tgt := 142) dX12_judge_106 (by decide) ?_
            refine qx_iinc (L' := [(2, 188), (0, v), (0, x), (0, y), (0, z), (0, v5), (0, v7), (0, (v7 + 1)), (0, x)]) dX12_judge_142 rfl rfl rfl (o31 c1 c6 c11 c21 r22 m22 p22 q22 c23) rfl ?_
            refine q_goto (tgt := 35) dX12_judge_145 (by decide) ?_
            refine q_kill (L' := [(2, 188), (0, v), (0, x), (0, y), (0, z), (0, v5), (0, v7), (0, (v7 + 1)), (4, 0)]) 8 rfl ?_
            exact l32 c1 c6 c11 c21 r22 m22 p22 q22 c23
theorem dX12_isMovingNow_0 : decode cX12_isMovingNow 0 = .ok (.iconst 0, 1) := by decide +kernel
theorem dX12_isMovingNow_1 : decode cX12_isMovingNow 1 = .ok (.istore_n 1, 1) := by decide +kernel
theorem dX12_isMovingNow_2 : decode cX12_isMovingNow 2 = .ok (.iload_n 1, 1) := by decide +kernel
theorem dX12_isMovingNow_3 : decode cX12_isMovingNow 3 = .ok (.aload_n 0, 1) := by decide +kernel
theorem dX12_isMovingNow_4 : decode cX12_isMovingNow 4 = .ok (.getfield 134, 3) := by decide +kernel
theorem dX12_isMovingNow_7 : decode cX12_isMovingNow 7 = .ok (.if_icmp .ge 29, 3) := by decide +kernel
theorem dX12_isMovingNow_10 : decode cX12_isMovingNow 10 = .ok (.aload_n 0, 1) := by decide +kernel
theorem dX12_isMovingNow_11 : decode cX12_isMovingNow 11 = .ok (.getfield 16, 3) := by decide +kernel
theorem dX12_isMovingNow_14 : decode cX12_isMovingNow 14 = .ok (.iload_n 1, 1) := by decide +kernel
theorem dX12_isMovingNow_15 : decode cX12_isMovingNow 15 = .ok (.iaload, 1) := by decide +kernel
theorem dX12_isMovingNow_16 : decode cX12_isMovingNow 16 = .ok (.ifCond .le 14, 3) := by decide +kernel
theorem dX12_isMovingNow_19 : decode cX12_isMovingNow 19 = .ok (.aload_n 0, 1) := by decide +kernel
theorem dX12_isMovingNow_20 : decode cX12_isMovingNow 20 = .ok (.getfield 13, 3) := by decide +kernel
theorem dX12_isMovingNow_23 : decode cX12_isMovingNow 23 = .ok (.iload_n 1, 1) := by decide +kernel
theorem dX12_isMovingNow_24 : decode cX12_isMovingNow 24 = .ok (.iaload, 1) := by decide +kernel
theorem dX12_isMovingNow_25 : decode cX12_isMovingNow 25 = .ok (.ifCond .le 5, 3) := by decide +kernel
theorem dX12_isMovingNow_28 : decode cX12_isMovingNow 28 = .ok (.iconst 1, 1) := by decide +kernel
theorem dX12_isMovingNow_29 : decode cX12_isMovingNow 29 = .ok (.ireturn, 1) := by decide +kernel
theorem dX12_isMovingNow_30 : decode cX12_isMovingNow 30 = .ok (.iinc 1 1, 3) := by decide +kernel
theorem dX12_isMovingNow_33 : decode cX12_isMovingNow 33 = .ok (.goto (-31), 3) := by decide +kernel
theorem dX12_isMovingNow_36 : decode cX12_isMovingNow 36 = .ok (.iconst 0, 1) := by decide +kernel
theorem dX12_isMovingNow_37 : decode cX12_isMovingNow 37 = .ok (.ireturn, 1) := by decide +kernel
theorem bkX12_isMovingNow_0 {b : Int} {mem : qm} {Q : Int → qm → Prop}
    (l1 : q_At yX12_isMovingNow cX12_isMovingNow 2 (some .boolean) 1 0 0 (qK (q_rb b) Q) 2 [(2, 188), (0, 0)] [] (q_sh0, q_rb b, mem)) :
    q_At yX12_isMovingNow cX12_isMovingNow 2 (some .boolean) 1 0 0 (qK (q_rb b) Q) 0 [(2, 188), (4, 0)] [] (q_sh0, q_rb b, mem) := by
  refine qx_iconst dX12_isMovingNow_0 rfl rfl ?_
  refine qx_istore_n (L' := [(2, 188), (0, 0)]) dX12_isMovingNow_1 rfl rfl rfl rfl ?_
  exact l1
theorem bkX12_isMovingNow_2 {b : Int} {mem : qm} {Q : Int → qm → Prop}
    {v1 : Int}
    (l1 : (mem 188 0) ≤ v1 → Q 0 mem)
    (o2 : v1 < (mem 188 0) → (0 ≤ v1 ∧ v1 < 9))
    (o3 : v1 < (mem 188 0) → (mem 191 v1) ≤ 0 → q_in32 (v1 + 1))
    (l4 : v1 < (mem 188 0) → (mem 191 v1) ≤ 0 → q_At yX12_isMovingNow cX12_isMovingNow 2 (some .boolean) 1 0 0 (qK (q_rb b) Q) 2 [(2, 188), (0, (v1 + 1))] [] (q_sh0, q_rb b, mem))
    (o5 : v1 < (mem 188 0) → 0 < (mem 191 v1) → (mem 190 v1) ≤ 0 → q_in32 (v1 + 1))
    (l6 : v1 < (mem 188 0) → 0 < (mem 191 v1) → (mem 190 v1) ≤ 0 → q_At yX12_isMovingNow cX12_isMovingNow 2 (some .boolean) 1 0 0 (qK (q_rb b) Q) 2 [(2, 188), (0, (v1 + 1))] [] (q_sh0, q_rb b, mem))
    (l7 : v1 < (mem 188 0) → 0 < (mem 191 v1) → 0 < (mem 190 v1) → Q 1 mem) :
    q_At yX12_isMovingNow cX12_isMovingNow 2 (some .boolean) 1 0 0 (qK (q_rb b) Q) 2 [(2, 188), (0, v1)] [] (q_sh0, q_rb b, mem) := by
  refine q_iload_n dX12_isMovingNow_2 rfl rfl ?_
  refine q_aload_n dX12_isMovingNow_3 rfl rfl ?_
  refine qx_getI (ci := 12) (k := 0) (v := (mem 188 0)) dX12_isMovingNow_4 rfl rfl rfl tw1183 rfl qs188 rfl ?_
  refine qx_icmp_ge (tgt := 36) dX12_isMovingNow_7 (by decide) (fun c1 => ?_) (fun c1 => ?_)
  · skip
    refine qx_iconst dX12_isMovingNow_36 rfl rfl ?_
    exact q_zret dX12_isMovingNow_37 (by decide) (qK_i (l1 c1))
  · skip
    refine q_aload_n dX12_isMovingNow_10 rfl rfl ?_
    refine q_getR (ci := 12) (k := 3) dX12_isMovingNow_11 rfl (by decide) rfl tw1186 (by decide) qs188 qw188_3 (by decide) ?_
    refine q_iload_n dX12_isMovingNow_14 rfl rfl ?_
    refine qx_iald (v := (mem 191 v1)) dX12_isMovingNow_15 qs191 (o2 c1) rfl ?_
    refine qx_if_le (tgt := 30) dX12_isMovingNow_16 (by decide) (fun c2 => ?_) (fun c2 => ?_)
    · skip
      refine qx_iinc (L' := [(2, 188), (0, (v1 + 1))]) dX12_isMovingNow_30 rfl rfl rfl (o3 c1 c2) rfl ?_
      refine q_goto (tgt := 2) dX12_isMovingNow_33 (by decide) ?_
      exact l4 c1 c2
    · skip
      refine q_aload_n dX12_isMovingNow_19 rfl rfl ?_
      refine q_getR (ci := 12) (k := 2) dX12_isMovingNow_20 rfl (by decide) rfl tw1185 (by decide) qs188 qw188_2 (by decide) ?_
      refine q_iload_n dX12_isMovingNow_23 rfl rfl ?_
      refine qx_iald (v := (mem 190 v1)) dX12_isMovingNow_24 qs190 (o2 c1) rfl ?_
      refine qx_if_le (tgt := 30) dX12_isMovingNow_25 (by decide) (fun c3 => ?_) (fun c3 => ?_)
      · skip
        refine qx_iinc (L' := [(2, 188), (0, (v1 + 1))]) dX12_isMovingNow_30 rfl rfl rfl (o5 c1 c2 c3) rfl ?_
        refine q_goto (tgt := 2) dX12_isMovingNow_33 (by decide) ?_
        exact l6 c1 c2 c3
      · skip
        refine qx_iconst dX12_isMovingNow_28 rfl rfl ?_
        exact q_zret dX12_isMovingNow_29 (by decide) (qK_i (l7 c1 c2 c3))
theorem dX12_comes_0 : decode cX12_comes 0 = .ok (.aload_n 0, 1) := by decide +kernel
theorem dX12_comes_1 : decode cX12_comes 1 = .ok (.iconst 0, 1) := by decide +kernel
theorem dX12_comes_2 : decode cX12_comes 2 = .ok (.putfield 128, 3) := by decide +kernel
theorem dX12_comes_5 : decode cX12_comes 5 = .ok (.aload_n 0, 1) := by decide +kernel
theorem dX12_comes_6 : decode cX12_comes 6 = .ok (.iload_n 1, 1) := by decide +kernel
theorem dX12_comes_7 : decode cX12_comes 7 = .ok (.invokevirtual 225, 3) := by decide +kernel
theorem dX12_comes_10 : decode cX12_comes 10 = .ok (.ifCond .eq 10, 3) := by decide +kernel
theorem dX12_comes_13 : decode cX12_comes 13 = .ok (.iload_n 2, 1) := by decide +kernel
theorem dX12_comes_14 : decode cX12_comes 14 = .ok (.invokestatic 254, 3) := by decide +kernel
theorem dX12_comes_17 : decode cX12_comes 17 = .ok (.ifCond .ne 5, 3) := by decide +kernel
theorem dX12_comes_20 : decode cX12_comes 20 = .ok (.iconst (-1), 1) := by decide +kernel
theorem dX12_comes_21 : decode cX12_comes 21 = .ok (.ireturn, 1) := by decide +kernel
theorem dX12_comes_22 : decode cX12_comes 22 = .ok (.aload_n 0, 1) := by decide +kernel
theorem dX12_comes_23 : decode cX12_comes 23 = .ok (.aload_n 0, 1) := by decide +kernel
theorem dX12_comes_24 : decode cX12_comes 24 = .ok (.getfield 66, 3) := by decide +kernel
theorem dX12_comes_27 : decode cX12_comes 27 = .ok (.iconst 0, 1) := by decide +kernel
theorem dX12_comes_28 : decode cX12_comes 28 = .ok (.invokevirtual 250, 3) := by decide +kernel
theorem dX12_comes_31 : decode cX12_comes 31 = .ok (.bipush (-2), 2) := by decide +kernel
theorem dX12_comes_33 : decode cX12_comes 33 = .ok (.istore_n 3, 1) := by decide +kernel
theorem dX12_comes_34 : decode cX12_comes 34 = .ok (.iconst 0, 1) := by decide +kernel
theorem dX12_comes_35 : decode cX12_comes 35 = .ok (.istore 4, 2) := by decide +kernel
theorem dX12_comes_37 : decode cX12_comes 37 = .ok (.iload 4, 2) := by decide +kernel
theorem dX12_comes_39 : decode cX12_comes 39 = .ok (.sipush 200, 3) := by decide +kernel
theorem dX12_comes_42 : decode cX12_comes 42 = .ok (.if_icmp .gt 32, 3) := by decide +kernel
theorem dX12_comes_45 : decode cX12_comes 45 = .ok (.iload_n 3, 1) := by decide +kernel
theorem dX12_comes_46 : decode cX12_comes 46 = .ok (.bipush (-2), 2) := by decide +kernel
theorem dX12_comes_48 : decode cX12_comes 48 = .ok (.if_icmp .ne 26, 3) := by decide +kernel
theorem dX12_comes_51 : decode cX12_comes 51 = .ok (.aload_n 0, 1) := by decide +kernel
theorem dX12_comes_52 : decode cX12_comes 52 = .ok (.iload_n 1, 1) := by decide +kernel
theorem dX12_comes_53 : decode cX12_comes 53 = .ok (.iload_n 2, 1) := by decide +kernel
theorem dX12_comes_54 : decode cX12_comes 54 = .ok (.invokevirtual 366, 3) := by decide +kernel
theorem dX12_comes_57 : decode cX12_comes 57 = .ok (.ifCond .le 6, 3) := by decide +kernel
theorem dX12_comes_60 : decode cX12_comes 60 = .ok (.iload 4, 2) := by decide +kernel
theorem dX12_comes_62 : decode cX12_comes 62 = .ok (.istore_n 3, 1) := by decide +kernel
theorem dX12_comes_63 : decode cX12_comes 63 = .ok (.aload_n 0, 1) := by decide +kernel
theorem dX12_comes_64 : decode cX12_comes 64 = .ok (.invokevirtual 273, 3) := by decide +kernel
theorem dX12_comes_67 : decode cX12_comes 67 = .ok (.pop, 1) := by decide +kernel
theorem dX12_comes_68 : decode cX12_comes 68 = .ok (.iinc 4 1, 3) := by decide +kernel
theorem dX12_comes_71 : decode cX12_comes 71 = .ok (.goto (-34), 3) := by decide +kernel
theorem dX12_comes_74 : decode cX12_comes 74 = .ok (.aload_n 0, 1) := by decide +kernel
theorem dX12_comes_75 : decode cX12_comes 75 = .ok (.aload_n 0, 1) := by decide +kernel
theorem dX12_comes_76 : decode cX12_comes 76 = .ok (.getfield 66, 3) := by decide +kernel
theorem dX12_comes_79 : decode cX12_comes 79 = .ok (.iconst 0, 1) := by decide +kernel
theorem dX12_comes_80 : decode cX12_comes 80 = .ok (.invokevirtual 283, 3) := by decide +kernel
theorem dX12_comes_83 : decode cX12_comes 83 = .ok (.iload_n 3, 1) := by decide +kernel
theorem dX12_comes_84 : decode cX12_comes 84 = .ok (.ireturn, 1) := by decide +kernel
theorem bkX12_comes_0 {b : Int} {mem : qm} {Q : Int → qm → Prop}
    {j v : Int}
    (o1 : q_in32 ((mem 188 0) - 1))
    {P3 : Int → qm → Prop}
    (l2 : (0 ≤ j ∧ j ≤ (mem 188 0) - 1) → (0 ≤ v ∧ v ≤ 6) → q_Ev yX12_lay cX12_lay 5 none 1 0 0 [(2, 188), (2, 205), (0, 0)] (q_sh0, q_rb b, (q_up mem 188 17 0)) (qK (q_rb b) (P3)))
    (l3 : (0 ≤ j ∧ j ≤ (mem 188 0) - 1) → (0 ≤ v ∧ v ≤ 6) → ∀ (r3 : Int), ∀ (m3 : qm), P3 r3 m3 → q_in32 r3 → q_At yX12_comes cX12_comes 5 (some .int) 3 0 0 (qK (q_rb b) Q) 37 [(2, 188), (0, j), (0, v), (0, (-2)), (0, 0)] [] (q_sh0, q_rb b, m3))
    (l4 : (0 ≤ j ∧ j ≤ (mem 188 0) - 1) → ¬ (0 ≤ v ∧ v ≤ 6) → Q (-1) (q_up mem 188 17 0))
    (l5 : ¬ (0 ≤ j ∧ j ≤ (mem 188 0) - 1) → Q (-1) (q_up mem 188 17 0)) :
    q_At yX12_comes cX12_comes 5 (some .int) 3 0 0 (qK (q_rb b) Q) 0 [(2, 188), (0, j), (0, v), (4, 0), (4, 0)] [] (q_sh0, q_rb b, mem) := by
  refine q_aload_n dX12_comes_0 rfl rfl ?_
  refine qx_iconst dX12_comes_1 rfl rfl ?_
  refine q_putI (ci := 12) (k := 17) (kI := 17) (ty := .int) dX12_comes_2 rfl (by decide) rfl tw1200 rfl rfl rfl (fun _ => ⟨rfl, rfl⟩) qs188 ?_
  refine q_aload_n dX12_comes_5 rfl rfl ?_
  refine q_iload_n dX12_comes_6 rfl rfl ?_
  refine qx_invV (ci := 12) [(0, j)] [(0, j), (2, 188)] rfl qM_X12_isJar dX12_comes_7 tw1433 rfl qs188 rfl rfl rfl rfl (spX12_isJar (by first | exact (o1) | (simp only [q_up, Int.reduceEq, false_and, true_and, and_true, and_false, ite_false, ite_true, if_true, if_false]; exact (o1)))) (fun r1 m1 p1 q1 => ?_)
  obtain ⟨p1e, ⟨p1f, p1⟩ | ⟨p1f, p1⟩⟩ := p1
  · rw [p1e, p1f]
    simp only [q_up, Int.reduceEq, false_and, true_and, and_true, and_false, ite_false, ite_true, if_true, if_false] at p1
    refine qx_if_eq (tgt := 20) dX12_comes_10 (by decide) (fun z => absurd z (by decide)) (fun _ => ?_)
    refine q_iload_n dX12_comes_13 rfl rfl ?_
    refine qx_invS [(0, v)] [(0, v)] rfl qM_X12_isOrigin dX12_comes_14 tw1463 rfl rfl rfl rfl (spX12_isOrigin) (fun r2 m2 p2 q2 => ?_)
    obtain ⟨p2e, ⟨p2f, p2⟩ | ⟨p2f, p2⟩⟩ := p2
    · rw [p2e, p2f]
      refine qx_if_ne (tgt := 22) dX12_comes_17 (by decide) (fun _ => ?_) (fun z => absurd z (by decide))
      refine q_aload_n dX12_comes_22 rfl rfl ?_
      refine q_aload_n dX12_comes_23 rfl rfl ?_
      refine q_getR (ci := 12) (k := 31) dX12_comes_24 rfl (by decide) rfl tw1214 (by decide) qs188 qw188_31 (by decide) ?_
      refine qx_iconst dX12_comes_27 rfl rfl ?_
      refine qx_invV (ci := 12) [(2, 205), (0, 0)] [(0, 0), (2, 205), (2, 188)] rfl qM_X12_lay dX12_comes_28 tw1470 rfl qs188 rfl rfl rfl rfl (l2 p1 p2) (fun r3 m3 p3 q3 => ?_)
      refine qx_bipush dX12_comes_31 rfl rfl ?_
      refine qx_istore_n (L' := [(2, 188), (0, j), (0, v), (0, (-2)), (4, 0)]) dX12_comes_33 rfl rfl rfl rfl ?_
      refine qx_iconst dX12_comes_34 rfl rfl ?_
      refine qx_istore (L' := [(2, 188), (0, j), (0, v), (0, (-2)), (0, 0)]) dX12_comes_35 rfl rfl rfl ?_
      exact l3 p1 p2 r3 m3 p3 q3
    · rw [p2e, p2f]
      refine qx_if_ne (tgt := 22) dX12_comes_17 (by decide) (fun z => absurd z (by decide)) (fun _ => ?_)
      refine qx_iconst dX12_comes_20 rfl rfl ?_
      exact q_iret dX12_comes_21 (qK_i (l4 p1 p2))
  · rw [p1e, p1f]
    simp only [q_up, Int.reduceEq, false_and, true_and, and_true, and_false, ite_false, ite_true, if_true, if_false] at p1
    refine qx_if_eq (tgt := 20) dX12_comes_10 (by decide) (fun _ => ?_) (fun z => absurd z (by decide))
    refine qx_iconst dX12_comes_20 rfl rfl ?_
    exact q_iret dX12_comes_21 (qK_i (l5 p1))
theorem bkX12_comes_37 {b : Int} {mem : qm} {Q : Int → qm → Prop}
    {j v v3 v4 : Int}
    {P2 : Int → qm → Prop}
    (l1 : 200 < v4 → q_Ev yX12_bring cX12_bring 5 none 1 0 0 [(2, 188), (2, 205), (0, 0)] (q_sh0, q_rb b, mem) (qK (q_rb b) (P2)))
    (l2 : 200 < v4 → ∀ (r2 : Int), ∀ (m2 : qm), P2 r2 m2 → q_in32 r2 → Q v3 m2)
    {P4 : Int → qm → Prop}
    (l3 : v4 ≤ 200 → v3 ≠ (-2) → q_Ev yX12_bring cX12_bring 5 none 1 0 0 [(2, 188), (2, 205), (0, 0)] (q_sh0, q_rb b, mem) (qK (q_rb b) (P4)))
    (l4 : v4 ≤ 200 → v3 ≠ (-2) → ∀ (r4 : Int), ∀ (m4 : qm), P4 r4 m4 → q_in32 r4 → Q v3 m4)
    {P5 : Int → qm → Prop}
    (l5 : v4 ≤ 200 → v3 = (-2) → q_Ev yX12_shareOf cX12_shareOf 5 (some .int) 1 0 0 [(2, 188), (0, j), (0, v)] (q_sh0, q_rb b, mem) (qK (q_rb b) (P5)))
    {P7 : Int → qm → Int → qm → Prop}
    (l6 : v4 ≤ 200 → v3 = (-2) → ∀ (r5 : Int), ∀ (m5 : qm), P5 r5 m5 → q_in32 r5 → r5 ≤ 0 → q_Ev yX12_goBell cX12_goBell 6 (some .int) 2 0 0 [(2, 188)] (q_sh0, q_rb b, m5) (qK (q_rb b) (P7 r5 m5)))
    (o7 : v4 ≤ 200 → v3 = (-2) → ∀ (r5 : Int), ∀ (m5 : qm), P5 r5 m5 → q_in32 r5 → r5 ≤ 0 → ∀ (r7 : Int), ∀ (m7 : qm), P7 r5 m5 r7 m7 → q_in32 r7 → q_in32 (v4 + 1))
    (l8 : v4 ≤ 200 → v3 = (-2) → ∀ (r5 : Int), ∀ (m5 : qm), P5 r5 m5 → q_in32 r5 → r5 ≤ 0 → ∀ (r7 : Int), ∀ (m7 : qm), P7 r5 m5 r7 m7 → q_in32 r7 → q_At yX12_comes cX12_comes 5 (some .int) 3 0 0 (qK (q_rb b) Q) 37 [(2, 188), (0, j), (0, v), (0, v3), (0, (v4 + 1))] [] (q_sh0, q_rb b, m7))
    {P8 : Int → qm → Int → qm → Prop}
    (l9 : v4 ≤ 200 → v3 = (-2) → ∀ (r5 : Int), ∀ (m5 : qm), P5 r5 m5 → q_in32 r5 → 0 < r5 → q_Ev yX12_goBell cX12_goBell 6 (some .int) 2 0 0 [(2, 188)] (q_sh0, q_rb b, m5) (qK (q_rb b) (P8 r5 m5)))
    (o10 : v4 ≤ 200 → v3 = (-2) → ∀ (r5 : Int), ∀ (m5 : qm), P5 r5 m5 → q_in32 r5 → 0 < r5 → ∀ (r8 : Int), ∀ (m8 : qm), P8 r5 m5 r8 m8 → q_in32 r8 → q_in32 (v4 + 1))
    (l11 : v4 ≤ 200 → v3 = (-2) → ∀ (r5 : Int), ∀ (m5 : qm), P5 r5 m5 → q_in32 r5 → 0 < r5 → ∀ (r8 : Int), ∀ (m8 : qm), P8 r5 m5 r8 m8 → q_in32 r8 → q_At yX12_comes cX12_comes 5 (some .int) 3 0 0 (qK (q_rb b) Q) 37 [(2, 188), (0, j), (0, v), (0, v4), (0, (v4 + 1))] [] (q_sh0, q_rb b, m8)) :
    q_At yX12_comes cX12_comes 5 (some .int) 3 0 0 (qK (q_rb b) Q) 37 [(2, 188), (0, j), (0, v), (0, v3), (0, v4)] [] (q_sh0, q_rb b, mem) := by
  refine q_iload dX12_comes_37 rfl ?_
  refine qx_sipush dX12_comes_39 rfl rfl ?_
  refine qx_icmp_gt (tgt := 74) dX12_comes_42 (by decide) (fun c1 => ?_) (fun c1 => ?_)
  · skip
    refine q_aload_n dX12_comes_74 rfl rfl ?_
    refine q_aload_n dX12_comes_75 rfl rfl ?_
    refine q_getR (ci := 12) (k := 31) dX12_comes_76 rfl (by decide) rfl tw1214 (by decide) qs188 qw188_31 (by decide) ?_
    refine qx_iconst dX12_comes_79 rfl rfl ?_
    refine qx_invV (ci := 12) [(2, 205), (0, 0)] [(0, 0), (2, 205), (2, 188)] rfl qM_X12_bring dX12_comes_80 tw1521 rfl qs188 rfl rfl rfl rfl (l1 c1) (fun r2 m2 p2 q2 => ?_)
    refine q_iload_n dX12_comes_83 rfl rfl ?_
    exact q_iret dX12_comes_84 (qK_i (l2 c1 r2 m2 p2 q2))
  · skip
    refine q_iload_n dX12_comes_45 rfl rfl ?_
    refine qx_bipush dX12_comes_46 rfl rfl ?_
    refine qx_icmp_ne (tgt := 74) dX12_comes_48 (by decide) (fun c3 => ?_) (fun c3 => ?_)
    · skip
      refine q_aload_n dX12_comes_74 rfl rfl ?_
      refine q_aload_n dX12_comes_75 rfl rfl ?_
      refine q_getR (ci := 12) (k := 31) dX12_comes_76 rfl (by decide) rfl tw1214 (by decide) qs188 qw188_31 (by decide) ?_
      refine qx_iconst dX12_comes_79 rfl rfl ?_
      refine qx_invV (ci := 12) [(2, 205), (0, 0)] [(0, 0), (2, 205), (2, 188)] rfl qM_X12_bring dX12_comes_80 tw1521 rfl qs188 rfl rfl rfl rfl (l3 c1 c3) (fun r4 m4 p4 q4 => ?_)
      refine q_iload_n dX12_comes_83 rfl rfl ?_
      exact q_iret dX12_comes_84 (qK_i (l4 c1 c3 r4 m4 p4 q4))
    · skip
      refine q_aload_n dX12_comes_51 rfl rfl ?_
      refine q_iload_n dX12_comes_52 rfl rfl ?_
      refine q_iload_n dX12_comes_53 rfl rfl ?_
      refine qx_invV (ci := 12) [(0, j), (0, v)] [(0, v), (0, j), (2, 188)] rfl qM_X12_shareOf dX12_comes_54 tw1683 rfl qs188 rfl rfl rfl rfl (l5 c1 c3) (fun r5 m5 p5 q5 => ?_)
      refine qx_if_le (tgt := 63) dX12_comes_57 (by decide) (fun c6 => ?_) (fun c6 => ?_)
      · skip
        refine q_aload_n dX12_comes_63 rfl rfl ?_
        refine qx_invV (ci := 12) [] [(2, 188)] rfl qM_X12_goBell dX12_comes_64 tw1505 rfl qs188 rfl rfl rfl rfl (l6 c1 c3 r5 m5 p5 q5 c6) (fun r7 m7 p7 q7 => ?_)
        refine q_pop dX12_comes_67 (fun h => by cases h) ?_
        refine qx_iinc (L' := [(2, 188), (0, j), (0, v), (0, v3), (0, (v4 + 1))]) dX12_comes_68 rfl rfl rfl (o7 c1 c3 r5 m5 p5 q5 c6 r7 m7 p7 q7) rfl ?_
        refine q_goto (tgt := 37) dX12_comes_71 (by decide) ?_
        exact l8 c1 c3 r5 m5 p5 q5 c6 r7 m7 p7 q7
      · skip
        refine q_iload dX12_comes_60 rfl ?_
        refine qx_istore_n (L' := [(2, 188), (0, j), (0, v), (0, v4), (0, v4)]) dX12_comes_62 rfl rfl rfl rfl ?_
        refine q_aload_n dX12_comes_63 rfl rfl ?_
        refine qx_invV (ci := 12) [] [(2, 188)] rfl qM_X12_goBell dX12_comes_64 tw1505 rfl qs188 rfl rfl rfl rfl (l9 c1 c3 r5 m5 p5 q5 c6) (fun r8 m8 p8 q8 => ?_)
        refine q_pop dX12_comes_67 (fun h => by cases h) ?_
        refine qx_iinc (L' := [(2, 188), (0, j), (0, v), (0, v4), (0, (v4 + 1))]) dX12_comes_68 rfl rfl rfl (o10 c1 c3 r5 m5 p5 q5 c6 r8 m8 p8 q8) rfl ?_
        refine q_goto (tgt := 37) dX12_comes_71 (by decide) ?_
        exact l11 c1 c3 r5 m5 p5 q5 c6 r8 m8 p8 q8
theorem dX12_marks_0 : decode cX12_marks 0 = .ok (.aload_n 0, 1) := by decide +kernel
theorem dX12_marks_1 : decode cX12_marks 1 = .ok (.iconst 0, 1) := by decide +kernel
theorem dX12_marks_2 : decode cX12_marks 2 = .ok (.putfield 128, 3) := by decide +kernel
theorem dX12_marks_5 : decode cX12_marks 5 = .ok (.aload_n 0, 1) := by decide +kernel
theorem dX12_marks_6 : decode cX12_marks 6 = .ok (.iload_n 1, 1) := by decide +kernel
theorem dX12_marks_7 : decode cX12_marks 7 = .ok (.invokevirtual 225, 3) := by decide +kernel
theorem dX12_marks_10 : decode cX12_marks 10 = .ok (.ifCond .ne 5, 3) := by decide +kernel
theorem dX12_marks_13 : decode cX12_marks 13 = .ok (.iconst (-1), 1) := by decide +kernel
theorem dX12_marks_14 : decode cX12_marks 14 = .ok (.ireturn, 1) := by decide +kernel
theorem dX12_marks_15 : decode cX12_marks 15 = .ok (.aload_n 0, 1) := by decide +kernel
theorem dX12_marks_16 : decode cX12_marks 16 = .ok (.aload_n 0, 1) := by decide +kernel
theorem dX12_marks_17 : decode cX12_marks 17 = .ok (.getfield 66, 3) := by decide +kernel
theorem dX12_marks_20 : decode cX12_marks 20 = .ok (.iconst 0, 1) := by decide +kernel
theorem dX12_marks_21 : decode cX12_marks 21 = .ok (.invokevirtual 250, 3) := by decide +kernel
theorem dX12_marks_24 : decode cX12_marks 24 = .ok (.iconst 0, 1) := by decide +kernel
theorem dX12_marks_25 : decode cX12_marks 25 = .ok (.istore_n 2, 1) := by decide +kernel
theorem dX12_marks_26 : decode cX12_marks 26 = .ok (.iload_n 2, 1) := by decide +kernel
theorem dX12_marks_27 : decode cX12_marks 27 = .ok (.sipush 540, 3) := by decide +kernel
theorem dX12_marks_30 : decode cX12_marks 30 = .ok (.if_icmp .ge 28, 3) := by decide +kernel
theorem dX12_marks_33 : decode cX12_marks 33 = .ok (.aload_n 0, 1) := by decide +kernel
theorem dX12_marks_34 : decode cX12_marks 34 = .ok (.getfield 31, 3) := by decide +kernel
theorem dX12_marks_37 : decode cX12_marks 37 = .ok (.iload_n 2, 1) := by decide +kernel
theorem dX12_marks_38 : decode cX12_marks 38 = .ok (.iload_n 2, 1) := by decide +kernel
theorem dX12_marks_39 : decode cX12_marks 39 = .ok (.bipush 60, 2) := by decide +kernel
theorem dX12_marks_41 : decode cX12_marks 41 = .ok (.idiv, 1) := by decide +kernel
theorem dX12_marks_42 : decode cX12_marks 42 = .ok (.iload_n 1, 1) := by decide +kernel
theorem dX12_marks_43 : decode cX12_marks 43 = .ok (.if_icmp .ne 7, 3) := by decide +kernel
theorem dX12_marks_46 : decode cX12_marks 46 = .ok (.iconst 1, 1) := by decide +kernel
theorem dX12_marks_47 : decode cX12_marks 47 = .ok (.goto 4, 3) := by decide +kernel
theorem dX12_marks_50 : decode cX12_marks 50 = .ok (.iconst 0, 1) := by decide +kernel
theorem dX12_marks_51 : decode cX12_marks 51 = .ok (.iastore, 1) := by decide +kernel
theorem dX12_marks_52 : decode cX12_marks 52 = .ok (.iinc 2 1, 3) := by decide +kernel
theorem dX12_marks_55 : decode cX12_marks 55 = .ok (.goto (-29), 3) := by decide +kernel
theorem dX12_marks_58 : decode cX12_marks 58 = .ok (.aload_n 0, 1) := by decide +kernel
theorem dX12_marks_59 : decode cX12_marks 59 = .ok (.getfield 13, 3) := by decide +kernel
theorem dX12_marks_62 : decode cX12_marks 62 = .ok (.iload_n 1, 1) := by decide +kernel
theorem dX12_marks_63 : decode cX12_marks 63 = .ok (.iaload, 1) := by decide +kernel
theorem dX12_marks_64 : decode cX12_marks 64 = .ok (.istore_n 2, 1) := by decide +kernel
theorem dX12_marks_65 : decode cX12_marks 65 = .ok (.aload_n 0, 1) := by decide +kernel
theorem dX12_marks_66 : decode cX12_marks 66 = .ok (.invokevirtual 369, 3) := by decide +kernel
theorem dX12_marks_69 : decode cX12_marks 69 = .ok (.ifCond .eq 11, 3) := by decide +kernel
theorem dX12_marks_72 : decode cX12_marks 72 = .ok (.aload_n 0, 1) := by decide +kernel
theorem dX12_marks_73 : decode cX12_marks 73 = .ok (.invokevirtual 273, 3) := by decide +kernel
theorem dX12_marks_76 : decode cX12_marks 76 = .ok (.pop, 1) := by decide +kernel
theorem dX12_marks_77 : decode cX12_marks 77 = .ok (.goto (-12), 3) := by decide +kernel
theorem dX12_marks_80 : decode cX12_marks 80 = .ok (.aload_n 0, 1) := by decide +kernel
theorem dX12_marks_81 : decode cX12_marks 81 = .ok (.iconst 0, 1) := by decide +kernel
theorem dX12_marks_82 : decode cX12_marks 82 = .ok (.putfield 131, 3) := by decide +kernel
theorem dX12_marks_85 : decode cX12_marks 85 = .ok (.iconst 0, 1) := by decide +kernel
theorem dX12_marks_86 : decode cX12_marks 86 = .ok (.istore_n 3, 1) := by decide +kernel
theorem dX12_marks_87 : decode cX12_marks 87 = .ok (.iload_n 3, 1) := by decide +kernel
theorem dX12_marks_88 : decode cX12_marks 88 = .ok (.aload_n 0, 1) := by decide +kernel
theorem dX12_marks_89 : decode cX12_marks 89 = .ok (.getfield 134, 3) := by decide +kernel
theorem dX12_marks_92 : decode cX12_marks 92 = .ok (.if_icmp .ge 28, 3) := by decide +kernel
theorem dX12_marks_95 : decode cX12_marks 95 = .ok (.aload_n 0, 1) := by decide +kernel
theorem dX12_marks_96 : decode cX12_marks 96 = .ok (.iload_n 3, 1) := by decide +kernel
theorem dX12_marks_97 : decode cX12_marks 97 = .ok (.iconst 1, 1) := by decide +kernel
theorem dX12_marks_98 : decode cX12_marks 98 = .ok (.invokevirtual 366, 3) := by decide +kernel
theorem dX12_marks_101 : decode cX12_marks 101 = .ok (.istore 4, 2) := by decide +kernel
theorem dX12_marks_103 : decode cX12_marks 103 = .ok (.aload_n 0, 1) := by decide +kernel
theorem dX12_marks_104 : decode cX12_marks 104 = .ok (.iload 4, 2) := by decide +kernel
theorem dX12_marks_106 : decode cX12_marks 106 = .ok (.invokevirtual 276, 3) := by decide +kernel
theorem dX12_marks_109 : decode cX12_marks 109 = .ok (.iload_n 2, 1) := by decide +kernel
theorem dX12_marks_110 : decode cX12_marks 110 = .ok (.iload 4, 2) := by decide +kernel
theorem dX12_marks_112 : decode cX12_marks 112 = .ok (.isub, 1) := by decide +kernel
theorem dX12_marks_113 : decode cX12_marks 113 = .ok (.istore_n 2, 1) := by decide +kernel
theorem dX12_marks_114 : decode cX12_marks 114 = .ok (.iinc 3 1, 3) := by decide +kernel
theorem dX12_marks_117 : decode cX12_marks 117 = .ok (.goto (-30), 3) := by decide +kernel
theorem dX12_marks_120 : decode cX12_marks 120 = .ok (.aload_n 0, 1) := by decide +kernel
theorem dX12_marks_121 : decode cX12_marks 121 = .ok (.aload_n 0, 1) := by decide +kernel
theorem dX12_marks_122 : decode cX12_marks 122 = .ok (.getfield 66, 3) := by decide +kernel
theorem dX12_marks_125 : decode cX12_marks 125 = .ok (.iconst 0, 1) := by decide +kernel
theorem dX12_marks_126 : decode cX12_marks 126 = .ok (.invokevirtual 283, 3) := by decide +kernel
theorem dX12_marks_129 : decode cX12_marks 129 = .ok (.iload_n 2, 1) := by decide +kernel
theorem dX12_marks_130 : decode cX12_marks 130 = .ok (.ireturn, 1) := by decide +kernel
theorem bkX12_marks_0 {b : Int} {mem : qm} {Q : Int → qm → Prop}
    {j : Int}
    (o1 : q_in32 ((mem 188 0) - 1))
    {P2 : Int → qm → Prop}
    (l2 : (0 ≤ j ∧ j ≤ (mem 188 0) - 1) → q_Ev yX12_lay cX12_lay 5 none 1 0 0 [(2, 188), (2, 205), (0, 0)] (q_sh0, q_rb b, (q_up mem 188 17 0)) (qK (q_rb b) (P2)))
    (l3 : (0 ≤ j ∧ j ≤ (mem 188 0) - 1) → ∀ (r2 : Int), ∀ (m2 : qm), P2 r2 m2 → q_in32 r2 → q_At yX12_marks cX12_marks 5 (some .int) 3 0 0 (qK (q_rb b) Q) 26 [(2, 188), (0, j), (0, 0), (4, 0), (4, 0)] [] (q_sh0, q_rb b, m2))
    (l4 : ¬ (0 ≤ j ∧ j ≤ (mem 188 0) - 1) → Q (-1) (q_up mem 188 17 0)) :
    q_At yX12_marks cX12_marks 5 (some .int) 3 0 0 (qK (q_rb b) Q) 0 [(2, 188), (0, j), (4, 0), (4, 0), (4, 0)] [] (q_sh0, q_rb b, mem) := by
  refine q_aload_n dX12_marks_0 rfl rfl ?_
  refine qx_iconst dX12_marks_1 rfl rfl ?_
  refine q_putI (ci := 12) (k := 17) (kI := 17) (ty := .int) dX12_marks_2 rfl (by decide) rfl tw1200 rfl rfl rfl (fun _ => ⟨rfl, rfl⟩) qs188 ?_
  refine q_aload_n dX12_marks_5 rfl rfl ?_
  refine q_iload_n dX12_marks_6 rfl rfl ?_
  refine qx_invV (ci := 12) [(0, j)] [(0, j), (2, 188)] rfl qM_X12_isJar dX12_marks_7 tw1433 rfl qs188 rfl rfl rfl rfl (spX12_isJar (by first | exact (o1) | (simp only [q_up, Int.reduceEq, false_and, true_and, and_true, and_false, ite_false, ite_true, if_true, if_false]; exact (o1)))) (fun r1 m1 p1 q1 => ?_)
  obtain ⟨p1e, ⟨p1f, p1⟩ | ⟨p1f, p1⟩⟩ := p1
  · rw [p1e, p1f]
    simp only [q_up, Int.reduceEq, false_and, true_and, and_true, and_false, ite_false, ite_true, if_true, if_false] at p1
    refine qx_if_ne (tgt := 15) dX12_marks_10 (by decide) (fun _ => ?_) (fun z => absurd z (by decide))
    refine q_aload_n dX12_marks_15 rfl rfl ?_
    refine q_aload_n dX12_marks_16 rfl rfl ?_
    refine q_getR (ci := 12) (k := 31) dX12_marks_17 rfl (by decide) rfl tw1214 (by decide) qs188 qw188_31 (by decide) ?_
    refine qx_iconst dX12_marks_20 rfl rfl ?_
    refine qx_invV (ci := 12) [(2, 205), (0, 0)] [(0, 0), (2, 205), (2, 188)] rfl qM_X12_lay dX12_marks_21 tw1470 rfl qs188 rfl rfl rfl rfl (l2 p1) (fun r2 m2 p2 q2 => ?_)
    refine qx_iconst dX12_marks_24 rfl rfl ?_
    refine qx_istore_n (L' := [(2, 188), (0, j), (0, 0), (4, 0), (4, 0)]) dX12_marks_25 rfl rfl rfl rfl ?_
    exact l3 p1 r2 m2 p2 q2
  · rw [p1e, p1f]
    simp only [q_up, Int.reduceEq, false_and, true_and, and_true, and_false, ite_false, ite_true, if_true, if_false] at p1
    refine qx_if_ne (tgt := 15) dX12_marks_10 (by decide) (fun z => absurd z (by decide)) (fun _ => ?_)
    refine qx_iconst dX12_marks_13 rfl rfl ?_
    exact q_iret dX12_marks_14 (qK_i (l4 p1))
theorem bkX12_marks_26 {b : Int} {mem : qm} {Q : Int → qm → Prop}
    {j v2 : Int}
    (o1 : 540 ≤ v2 → (0 ≤ j ∧ j < 9))
    (l2 : 540 ≤ v2 → q_At yX12_marks cX12_marks 5 (some .int) 3 0 0 (qK (q_rb b) Q) 65 [(2, 188), (0, j), (0, (mem 190 j)), (4, 0), (4, 0)] [] (q_sh0, q_rb b, mem))
    (o3 : v2 < 540 → (q_oidiv v2 60) ≠ j → (0 ≤ v2 ∧ v2 < 540) ∧ q_in32 (v2 + 1))
    (l4 : v2 < 540 → (q_oidiv v2 60) ≠ j → q_At yX12_marks cX12_marks 5 (some .int) 3 0 0 (qK (q_rb b) Q) 26 [(2, 188), (0, j), (0, (v2 + 1)), (4, 0), (4, 0)] [] (q_sh0, q_rb b, (q_up mem 196 v2 0)))
    (o5 : v2 < 540 → (q_oidiv v2 60) = j → (0 ≤ v2 ∧ v2 < 540) ∧ q_in32 (v2 + 1))
    (l6 : v2 < 540 → (q_oidiv v2 60) = j → q_At yX12_marks cX12_marks 5 (some .int) 3 0 0 (qK (q_rb b) Q) 26 [(2, 188), (0, j), (0, (v2 + 1)), (4, 0), (4, 0)] [] (q_sh0, q_rb b, (q_up mem 196 v2 1))) :
    q_At yX12_marks cX12_marks 5 (some .int) 3 0 0 (qK (q_rb b) Q) 26 [(2, 188), (0, j), (0, v2), (4, 0), (4, 0)] [] (q_sh0, q_rb b, mem) := by
  refine q_iload_n dX12_marks_26 rfl rfl ?_
  refine qx_sipush dX12_marks_27 rfl rfl ?_
  refine qx_icmp_ge (tgt := 58) dX12_marks_30 (by decide) (fun c1 => ?_) (fun c1 => ?_)
  · skip
    refine q_aload_n dX12_marks_58 rfl rfl ?_
    refine q_getR (ci := 12) (k := 2) dX12_marks_59 rfl (by decide) rfl tw1185 (by decide) qs188 qw188_2 (by decide) ?_
    refine q_iload_n dX12_marks_62 rfl rfl ?_
    refine qx_iald (v := (mem 190 j)) dX12_marks_63 qs190 (o1 c1) rfl ?_
    refine qx_istore_n (L' := [(2, 188), (0, j), (0, (mem 190 j)), (4, 0), (4, 0)]) dX12_marks_64 rfl rfl rfl rfl ?_
    exact l2 c1
  · skip
    refine q_aload_n dX12_marks_33 rfl rfl ?_
    refine q_getR (ci := 12) (k := 8) dX12_marks_34 rfl (by decide) rfl tw1191 (by decide) qs188 qw188_8 (by decide) ?_
    refine q_iload_n dX12_marks_37 rfl rfl ?_
    refine q_iload_n dX12_marks_38 rfl rfl ?_
    refine qx_bipush dX12_marks_39 rfl rfl ?_
    refine q_idiv dX12_marks_41 (by decide) ?_
    refine q_iload_n dX12_marks_42 rfl rfl ?_
    refine qx_icmp_ne (tgt := 50) dX12_marks_43 (by decide) (fun c2 => ?_) (fun c2 => ?_)
    · skip
      refine qx_iconst dX12_marks_50 rfl rfl ?_
      refine q_iast dX12_marks_51 qs196 ((o3 c1 c2).1).1 ((o3 c1 c2).1).2 ?_
      refine qx_iinc (L' := [(2, 188), (0, j), (0, (v2 + 1)), (4, 0), (4, 0)]) dX12_marks_52 rfl rfl rfl (o3 c1 c2).2 rfl ?_
      refine q_goto (tgt := 26) dX12_marks_55 (by decide) ?_
      exact l4 c1 c2
    · skip
      refine qx_iconst dX12_marks_46 rfl rfl ?_
      refine q_goto (tgt := 51) dX12_marks_47 (by decide) ?_
      refine q_iast dX12_marks_51 qs196 ((o5 c1 c2).1).1 ((o5 c1 c2).1).2 ?_
      refine qx_iinc (L' := [(2, 188), (0, j), (0, (v2 + 1)), (4, 0), (4, 0)]) dX12_marks_52 rfl rfl rfl (o5 c1 c2).2 rfl ?_
      refine q_goto (tgt := 26) dX12_marks_55 (by decide) ?_
      exact l6 c1 c2
theorem bkX12_marks_65 {b : Int} {mem : qm} {Q : Int → qm → Prop}
    {j v2 : Int}
    {P1 : Int → qm → Prop}
    (l1 : q_Ev yX12_isMovingNow cX12_isMovingNow 2 (some .boolean) 1 0 0 [(2, 188)] (q_sh0, q_rb b, mem) (qK (q_rb b) (P1)))
    (l2 : ∀ (r1 : Int), ∀ (m1 : qm), P1 r1 m1 → q_in32 r1 → r1 = 0 → q_At yX12_marks cX12_marks 5 (some .int) 3 0 0 (qK (q_rb b) Q) 87 [(2, 188), (0, j), (0, v2), (0, 0), (4, 0)] [] (q_sh0, q_rb b, (q_up m1 188 16 0)))
    {P3 : Int → qm → Int → qm → Prop}
    (l3 : ∀ (r1 : Int), ∀ (m1 : qm), P1 r1 m1 → q_in32 r1 → r1 ≠ 0 → q_Ev yX12_goBell cX12_goBell 6 (some .int) 2 0 0 [(2, 188)] (q_sh0, q_rb b, m1) (qK (q_rb b) (P3 r1 m1)))
    (l4 : ∀ (r1 : Int), ∀ (m1 : qm), P1 r1 m1 → q_in32 r1 → r1 ≠ 0 → ∀ (r3 : Int), ∀ (m3 : qm), P3 r1 m1 r3 m3 → q_in32 r3 → q_At yX12_marks cX12_marks 5 (some .int) 3 0 0 (qK (q_rb b) Q) 65 [(2, 188), (0, j), (0, v2), (4, 0), (4, 0)] [] (q_sh0, q_rb b, m3)) :
    q_At yX12_marks cX12_marks 5 (some .int) 3 0 0 (qK (q_rb b) Q) 65 [(2, 188), (0, j), (0, v2), (4, 0), (4, 0)] [] (q_sh0, q_rb b, mem) := by
  refine q_aload_n dX12_marks_65 rfl rfl ?_
  refine qx_invV (ci := 12) [] [(2, 188)] rfl qM_X12_isMovingNow dX12_marks_66 tw1703 rfl qs188 rfl rfl rfl rfl (l1) (fun r1 m1 p1 q1 => ?_)
  refine qx_if_eq (tgt := 80) dX12_marks_69 (by decide) (fun c2 => ?_) (fun c2 => ?_)
  · skip
    refine q_aload_n dX12_marks_80 rfl rfl ?_
    refine qx_iconst dX12_marks_81 rfl rfl ?_
    refine q_putI (ci := 12) (k := 16) (kI := 16) (ty := .int) dX12_marks_82 rfl (by decide) rfl tw1199 rfl rfl rfl (fun _ => ⟨rfl, rfl⟩) qs188 ?_
    refine qx_iconst dX12_marks_85 rfl rfl ?_
    refine qx_istore_n (L' := [(2, 188), (0, j), (0, v2), (0, 0), (4, 0)]) dX12_marks_86 rfl rfl rfl rfl ?_
    exact l2 r1 m1 p1 q1 c2
  · skip
    refine q_aload_n dX12_marks_72 rfl rfl ?_
    refine qx_invV (ci := 12) [] [(2, 188)] rfl qM_X12_goBell dX12_marks_73 tw1505 rfl qs188 rfl rfl rfl rfl (l3 r1 m1 p1 q1 c2) (fun r3 m3 p3 q3 => ?_)
    refine q_pop dX12_marks_76 (fun h => by cases h) ?_
    refine q_goto (tgt := 65) dX12_marks_77 (by decide) ?_
    exact l4 r1 m1 p1 q1 c2 r3 m3 p3 q3
theorem bkX12_marks_87 {b : Int} {mem : qm} {Q : Int → qm → Prop}
    {j v2 v3 : Int}
    {P2 : Int → qm → Prop}
    (l1 : (mem 188 0) ≤ v3 → q_Ev yX12_bring cX12_bring 5 none 1 0 0 [(2, 188), (2, 205), (0, 0)] (q_sh0, q_rb b, mem) (qK (q_rb b) (P2)))
    (l2 : (mem 188 0) ≤ v3 → ∀ (r2 : Int), ∀ (m2 : qm), P2 r2 m2 → q_in32 r2 → Q v2 m2)
    {P3 : Int → qm → Prop}
    (l3 : v3 < (mem 188 0) → q_Ev yX12_shareOf cX12_shareOf 5 (some .int) 1 0 0 [(2, 188), (0, v3), (0, 1)] (q_sh0, q_rb b, mem) (qK (q_rb b) (P3)))
    (o4 : v3 < (mem 188 0) → ∀ (r3 : Int), ∀ (m3 : qm), P3 r3 m3 → q_in32 r3 → (0 ≤ (m3 188 16) ∧ (m3 188 16) < 16) ∧ q_in32 (v2 - r3) ∧ q_in32 (v3 + 1))
    (l5 : v3 < (mem 188 0) → ∀ (r3 : Int), ∀ (m3 : qm), P3 r3 m3 → q_in32 r3 → q_At yX12_marks cX12_marks 5 (some .int) 3 0 0 (qK (q_rb b) Q) 87 [(2, 188), (0, j), (0, (v2 - r3)), (0, (v3 + 1)), (4, 0)] [] (q_sh0, q_rb b, (q_up (q_up m3 199 (m3 188 16) r3) 188 16 ((m3 188 16) + 1)))) :
    q_At yX12_marks cX12_marks 5 (some .int) 3 0 0 (qK (q_rb b) Q) 87 [(2, 188), (0, j), (0, v2), (0, v3), (4, 0)] [] (q_sh0, q_rb b, mem) := by
  refine q_iload_n dX12_marks_87 rfl rfl ?_
  refine q_aload_n dX12_marks_88 rfl rfl ?_
  refine qx_getI (ci := 12) (k := 0) (v := (mem 188 0)) dX12_marks_89 rfl rfl rfl tw1183 rfl qs188 rfl ?_
  refine qx_icmp_ge (tgt := 120) dX12_marks_92 (by decide) (fun c1 => ?_) (fun c1 => ?_)
  · skip
    refine q_aload_n dX12_marks_120 rfl rfl ?_
    refine q_aload_n dX12_marks_121 rfl rfl ?_
    refine q_getR (ci := 12) (k := 31) dX12_marks_122 rfl (by decide) rfl tw1214 (by decide) qs188 qw188_31 (by decide) ?_
    refine qx_iconst dX12_marks_125 rfl rfl ?_
    refine qx_invV (ci := 12) [(2, 205), (0, 0)] [(0, 0), (2, 205), (2, 188)] rfl qM_X12_bring dX12_marks_126 tw1521 rfl qs188 rfl rfl rfl rfl (l1 c1) (fun r2 m2 p2 q2 => ?_)
    refine q_iload_n dX12_marks_129 rfl rfl ?_
    exact q_iret dX12_marks_130 (qK_i (l2 c1 r2 m2 p2 q2))
  · skip
    refine q_aload_n dX12_marks_95 rfl rfl ?_
    refine q_iload_n dX12_marks_96 rfl rfl ?_
    refine qx_iconst dX12_marks_97 rfl rfl ?_
    refine qx_invV (ci := 12) [(0, v3), (0, 1)] [(0, 1), (0, v3), (2, 188)] rfl qM_X12_shareOf dX12_marks_98 tw1683 rfl qs188 rfl rfl rfl rfl (l3 c1) (fun r3 m3 p3 q3 => ?_)
    refine qx_istore (L' := [(2, 188), (0, j), (0, v2), (0, v3), (0, r3)]) dX12_marks_101 rfl rfl rfl ?_
    refine q_aload_n dX12_marks_103 rfl rfl ?_
    refine q_iload dX12_marks_104 rfl ?_
    refine qx_invV (ci := 12) [(0, r3)] [(0, r3), (2, 188)] rfl qM_X12_tell dX12_marks_106 tw1509 rfl qs188 rfl rfl rfl rfl (spX12_tell (o4 c1 r3 m3 p3 q3).1) (fun r4 m4 p4 q4 => ?_)
    obtain rfl := p4
    refine q_iload_n dX12_marks_109 rfl rfl ?_
    refine q_iload dX12_marks_110 rfl ?_
    refine qx_isub dX12_marks_112 (o4 c1 r3 m3 p3 q3).2.1 ?_
    refine qx_istore_n (L' := [(2, 188), (0, j), (0, (v2 - r3)), (0, v3), (0, r3)]) dX12_marks_113 rfl rfl rfl rfl ?_
    refine qx_iinc (L' := [(2, 188), (0, j), (0, (v2 - r3)), (0, (v3 + 1)), (0, r3)]) dX12_marks_114 rfl rfl rfl (o4 c1 r3 m3 p3 q3).2.2 rfl ?_
    refine q_goto (tgt := 87) dX12_marks_117 (by decide) ?_
    refine q_kill (L' := [(2, 188), (0, j), (0, (v2 - r3)), (0, (v3 + 1)), (4, 0)]) 4 rfl ?_
    exact l5 c1 r3 m3 p3 q3
theorem dX12_tax_0 : decode cX12_tax 0 = .ok (.aload_n 0, 1) := by decide +kernel
theorem dX12_tax_1 : decode cX12_tax 1 = .ok (.iconst 0, 1) := by decide +kernel
theorem dX12_tax_2 : decode cX12_tax 2 = .ok (.putfield 128, 3) := by decide +kernel
theorem dX12_tax_5 : decode cX12_tax 5 = .ok (.iload_n 1, 1) := by decide +kernel
theorem dX12_tax_6 : decode cX12_tax 6 = .ok (.invokestatic 270, 3) := by decide +kernel
theorem dX12_tax_9 : decode cX12_tax 9 = .ok (.ifCond .ne 5, 3) := by decide +kernel
theorem dX12_tax_12 : decode cX12_tax 12 = .ok (.iconst (-1), 1) := by decide +kernel
theorem dX12_tax_13 : decode cX12_tax 13 = .ok (.ireturn, 1) := by decide +kernel
theorem dX12_tax_14 : decode cX12_tax 14 = .ok (.iconst 0, 1) := by decide +kernel
theorem dX12_tax_15 : decode cX12_tax 15 = .ok (.istore_n 2, 1) := by decide +kernel
theorem dX12_tax_16 : decode cX12_tax 16 = .ok (.iload_n 2, 1) := by decide +kernel
theorem dX12_tax_17 : decode cX12_tax 17 = .ok (.bipush 7, 2) := by decide +kernel
theorem dX12_tax_19 : decode cX12_tax 19 = .ok (.if_icmp .ge 47, 3) := by decide +kernel
theorem dX12_tax_22 : decode cX12_tax 22 = .ok (.aload_n 0, 1) := by decide +kernel
theorem dX12_tax_23 : decode cX12_tax 23 = .ok (.getfield 109, 3) := by decide +kernel
theorem dX12_tax_26 : decode cX12_tax 26 = .ok (.iload_n 2, 1) := by decide +kernel
theorem dX12_tax_27 : decode cX12_tax 27 = .ok (.iconst 0, 1) := by decide +kernel
theorem dX12_tax_28 : decode cX12_tax 28 = .ok (.iastore, 1) := by decide +kernel
theorem dX12_tax_29 : decode cX12_tax 29 = .ok (.iconst 0, 1) := by decide +kernel
theorem dX12_tax_30 : decode cX12_tax 30 = .ok (.istore_n 3, 1) := by decide +kernel
theorem dX12_tax_31 : decode cX12_tax 31 = .ok (.iload_n 3, 1) := by decide +kernel
theorem dX12_tax_32 : decode cX12_tax 32 = .ok (.aload_n 0, 1) := by decide +kernel
theorem dX12_tax_33 : decode cX12_tax 33 = .ok (.getfield 134, 3) := by decide +kernel
theorem dX12_tax_36 : decode cX12_tax 36 = .ok (.if_icmp .ge 24, 3) := by decide +kernel
theorem dX12_tax_39 : decode cX12_tax 39 = .ok (.aload_n 0, 1) := by decide +kernel
theorem dX12_tax_40 : decode cX12_tax 40 = .ok (.getfield 109, 3) := by decide +kernel
theorem dX12_tax_43 : decode cX12_tax 43 = .ok (.iload_n 2, 1) := by decide +kernel
theorem dX12_tax_44 : decode cX12_tax 44 = .ok (.dup2, 1) := by decide +kernel
theorem dX12_tax_45 : decode cX12_tax 45 = .ok (.iaload, 1) := by decide +kernel
theorem dX12_tax_46 : decode cX12_tax 46 = .ok (.aload_n 0, 1) := by decide +kernel
theorem dX12_tax_47 : decode cX12_tax 47 = .ok (.iload_n 3, 1) := by decide +kernel
theorem dX12_tax_48 : decode cX12_tax 48 = .ok (.iload_n 2, 1) := by decide +kernel
theorem dX12_tax_49 : decode cX12_tax 49 = .ok (.invokevirtual 366, 3) := by decide +kernel
theorem dX12_tax_52 : decode cX12_tax 52 = .ok (.iadd, 1) := by decide +kernel
theorem dX12_tax_53 : decode cX12_tax 53 = .ok (.iastore, 1) := by decide +kernel
theorem dX12_tax_54 : decode cX12_tax 54 = .ok (.iinc 3 1, 3) := by decide +kernel
theorem dX12_tax_57 : decode cX12_tax 57 = .ok (.goto (-26), 3) := by decide +kernel
theorem dX12_tax_60 : decode cX12_tax 60 = .ok (.iinc 2 1, 3) := by decide +kernel
theorem dX12_tax_63 : decode cX12_tax 63 = .ok (.goto (-47), 3) := by decide +kernel
theorem dX12_tax_66 : decode cX12_tax 66 = .ok (.aload_n 0, 1) := by decide +kernel
theorem dX12_tax_67 : decode cX12_tax 67 = .ok (.aload_n 0, 1) := by decide +kernel
theorem dX12_tax_68 : decode cX12_tax 68 = .ok (.getfield 66, 3) := by decide +kernel
theorem dX12_tax_71 : decode cX12_tax 71 = .ok (.iconst 0, 1) := by decide +kernel
theorem dX12_tax_72 : decode cX12_tax 72 = .ok (.invokevirtual 250, 3) := by decide +kernel
theorem dX12_tax_75 : decode cX12_tax 75 = .ok (.iconst 0, 1) := by decide +kernel
theorem dX12_tax_76 : decode cX12_tax 76 = .ok (.istore_n 2, 1) := by decide +kernel
theorem dX12_tax_77 : decode cX12_tax 77 = .ok (.iconst 0, 1) := by decide +kernel
theorem dX12_tax_78 : decode cX12_tax 78 = .ok (.istore_n 3, 1) := by decide +kernel
theorem dX12_tax_79 : decode cX12_tax 79 = .ok (.iload_n 3, 1) := by decide +kernel
theorem dX12_tax_80 : decode cX12_tax 80 = .ok (.iload_n 1, 1) := by decide +kernel
theorem dX12_tax_81 : decode cX12_tax 81 = .ok (.if_icmp .ge 16, 3) := by decide +kernel
theorem dX12_tax_84 : decode cX12_tax 84 = .ok (.iload_n 2, 1) := by decide +kernel
theorem dX12_tax_85 : decode cX12_tax 85 = .ok (.aload_n 0, 1) := by decide +kernel
theorem dX12_tax_86 : decode cX12_tax 86 = .ok (.invokevirtual 273, 3) := by decide +kernel
theorem dX12_tax_89 : decode cX12_tax 89 = .ok (.iadd, 1) := by decide +kernel
theorem dX12_tax_90 : decode cX12_tax 90 = .ok (.istore_n 2, 1) := by decide +kernel
theorem dX12_tax_91 : decode cX12_tax 91 = .ok (.iinc 3 1, 3) := by decide +kernel
theorem dX12_tax_94 : decode cX12_tax 94 = .ok (.goto (-15), 3) := by decide +kernel
theorem dX12_tax_97 : decode cX12_tax 97 = .ok (.iconst 0, 1) := by decide +kernel
theorem dX12_tax_98 : decode cX12_tax 98 = .ok (.istore_n 3, 1) := by decide +kernel
theorem dX12_tax_99 : decode cX12_tax 99 = .ok (.iload_n 3, 1) := by decide +kernel
theorem dX12_tax_100 : decode cX12_tax 100 = .ok (.bipush 7, 2) := by decide +kernel
theorem dX12_tax_102 : decode cX12_tax 102 = .ok (.if_icmp .ge 43, 3) := by decide +kernel
theorem dX12_tax_105 : decode cX12_tax 105 = .ok (.iconst 0, 1) := by decide +kernel
theorem dX12_tax_106 : decode cX12_tax 106 = .ok (.istore 4, 2) := by decide +kernel
theorem dX12_tax_108 : decode cX12_tax 108 = .ok (.iload 4, 2) := by decide +kernel
theorem dX12_tax_110 : decode cX12_tax 110 = .ok (.aload_n 0, 1) := by decide +kernel
theorem dX12_tax_111 : decode cX12_tax 111 = .ok (.getfield 134, 3) := by decide +kernel
theorem dX12_tax_114 : decode cX12_tax 114 = .ok (.if_icmp .ge 25, 3) := by decide +kernel
theorem dX12_tax_117 : decode cX12_tax 117 = .ok (.aload_n 0, 1) := by decide +kernel
theorem dX12_tax_118 : decode cX12_tax 118 = .ok (.getfield 109, 3) := by decide +kernel
theorem dX12_tax_121 : decode cX12_tax 121 = .ok (.iload_n 3, 1) := by decide +kernel
theorem dX12_tax_122 : decode cX12_tax 122 = .ok (.dup2, 1) := by decide +kernel
theorem dX12_tax_123 : decode cX12_tax 123 = .ok (.iaload, 1) := by decide +kernel
theorem dX12_tax_124 : decode cX12_tax 124 = .ok (.aload_n 0, 1) := by decide +kernel
theorem dX12_tax_125 : decode cX12_tax 125 = .ok (.iload 4, 2) := by decide +kernel
theorem dX12_tax_127 : decode cX12_tax 127 = .ok (.iload_n 3, 1) := by decide +kernel
theorem dX12_tax_128 : decode cX12_tax 128 = .ok (.invokevirtual 366, 3) := by decide +kernel
theorem dX12_tax_131 : decode cX12_tax 131 = .ok (.isub, 1) := by decide +kernel
theorem dX12_tax_132 : decode cX12_tax 132 = .ok (.iastore, 1) := by decide +kernel
theorem dX12_tax_133 : decode cX12_tax 133 = .ok (.iinc 4 1, 3) := by decide +kernel
theorem dX12_tax_136 : decode cX12_tax 136 = .ok (.goto (-28), 3) := by decide +kernel
theorem dX12_tax_139 : decode cX12_tax 139 = .ok (.iinc 3 1, 3) := by decide +kernel
theorem dX12_tax_142 : decode cX12_tax 142 = .ok (.goto (-43), 3) := by decide +kernel
theorem dX12_tax_145 : decode cX12_tax 145 = .ok (.aload_n 0, 1) := by decide +kernel
theorem dX12_tax_146 : decode cX12_tax 146 = .ok (.aload_n 0, 1) := by decide +kernel
theorem dX12_tax_147 : decode cX12_tax 147 = .ok (.getfield 66, 3) := by decide +kernel
theorem dX12_tax_150 : decode cX12_tax 150 = .ok (.iconst 0, 1) := by decide +kernel
theorem dX12_tax_151 : decode cX12_tax 151 = .ok (.invokevirtual 283, 3) := by decide +kernel
theorem dX12_tax_154 : decode cX12_tax 154 = .ok (.aload_n 0, 1) := by decide +kernel
theorem dX12_tax_155 : decode cX12_tax 155 = .ok (.iconst 0, 1) := by decide +kernel
theorem dX12_tax_156 : decode cX12_tax 156 = .ok (.putfield 131, 3) := by decide +kernel
theorem dX12_tax_159 : decode cX12_tax 159 = .ok (.aload_n 0, 1) := by decide +kernel
theorem dX12_tax_160 : decode cX12_tax 160 = .ok (.getfield 109, 3) := by decide +kernel
theorem dX12_tax_163 : decode cX12_tax 163 = .ok (.astore_n 3, 1) := by decide +kernel
theorem dX12_tax_164 : decode cX12_tax 164 = .ok (.aload_n 3, 1) := by decide +kernel
theorem dX12_tax_165 : decode cX12_tax 165 = .ok (.arraylength, 1) := by decide +kernel
theorem dX12_tax_166 : decode cX12_tax 166 = .ok (.istore 4, 2) := by decide +kernel
theorem dX12_tax_168 : decode cX12_tax 168 = .ok (.iconst 0, 1) := by decide +kernel
theorem dX12_tax_169 : decode cX12_tax 169 = .ok (.istore 5, 2) := by decide +kernel
theorem dX12_tax_171 : decode cX12_tax 171 = .ok (.iload 5, 2) := by decide +kernel
theorem dX12_tax_173 : decode cX12_tax 173 = .ok (.iload 4, 2) := by decide +kernel
theorem dX12_tax_175 : decode cX12_tax 175 = .ok (.if_icmp .ge 21, 3) := by decide +kernel
theorem dX12_tax_178 : decode cX12_tax 178 = .ok (.aload_n 3, 1) := by decide +kernel
theorem dX12_tax_179 : decode cX12_tax 179 = .ok (.iload 5, 2) := by decide +kernel
theorem dX12_tax_181 : decode cX12_tax 181 = .ok (.iaload, 1) := by decide +kernel
theorem dX12_tax_182 : decode cX12_tax 182 = .ok (.istore 6, 2) := by decide +kernel
theorem dX12_tax_184 : decode cX12_tax 184 = .ok (.aload_n 0, 1) := by decide +kernel
theorem dX12_tax_185 : decode cX12_tax 185 = .ok (.iload 6, 2) := by decide +kernel
theorem dX12_tax_187 : decode cX12_tax 187 = .ok (.invokevirtual 276, 3) := by decide +kernel
theorem dX12_tax_190 : decode cX12_tax 190 = .ok (.iinc 5 1, 3) := by decide +kernel
theorem dX12_tax_193 : decode cX12_tax 193 = .ok (.goto (-22), 3) := by decide +kernel
theorem dX12_tax_196 : decode cX12_tax 196 = .ok (.iload_n 2, 1) := by decide +kernel
theorem dX12_tax_197 : decode cX12_tax 197 = .ok (.ireturn, 1) := by decide +kernel
theorem bkX12_tax_0 {b : Int} {mem : qm} {Q : Int → qm → Prop}
    {v : Int}
    (l1 : (0 ≤ v ∧ v ≤ 200) → q_At yX12_tax cX12_tax 7 (some .int) 3 0 0 (qK (q_rb b) Q) 16 [(2, 188), (0, v), (0, 0), (4, 0), (4, 0), (4, 0), (4, 0)] [] (q_sh0, q_rb b, (q_up mem 188 17 0)))
    (l2 : ¬ (0 ≤ v ∧ v ≤ 200) → Q (-1) (q_up mem 188 17 0)) :
    q_At yX12_tax cX12_tax 7 (some .int) 3 0 0 (qK (q_rb b) Q) 0 [(2, 188), (0, v), (4, 0), (4, 0), (4, 0), (4, 0), (4, 0)] [] (q_sh0, q_rb b, mem) := by
  refine q_aload_n dX12_tax_0 rfl rfl ?_
  refine qx_iconst dX12_tax_1 rfl rfl ?_
  refine q_putI (ci := 12) (k := 17) (kI := 17) (ty := .int) dX12_tax_2 rfl (by decide) rfl tw1200 rfl rfl rfl (fun _ => ⟨rfl, rfl⟩) qs188 ?_
  refine q_iload_n dX12_tax_5 rfl rfl ?_
  refine qx_invS [(0, v)] [(0, v)] rfl qM_X12_isAhead dX12_tax_6 tw1502 rfl rfl rfl rfl (spX12_isAhead) (fun r1 m1 p1 q1 => ?_)
  obtain ⟨p1e, ⟨p1f, p1⟩ | ⟨p1f, p1⟩⟩ := p1
  · rw [p1e, p1f]
    refine qx_if_ne (tgt := 14) dX12_tax_9 (by decide) (fun _ => ?_) (fun z => absurd z (by decide))
    refine qx_iconst dX12_tax_14 rfl rfl ?_
    refine qx_istore_n (L' := [(2, 188), (0, v), (0, 0), (4, 0), (4, 0), (4, 0), (4, 0)]) dX12_tax_15 rfl rfl rfl rfl ?_
    exact l1 p1
  · rw [p1e, p1f]
    refine qx_if_ne (tgt := 14) dX12_tax_9 (by decide) (fun z => absurd z (by decide)) (fun _ => ?_)
    refine qx_iconst dX12_tax_12 rfl rfl ?_
    exact q_iret dX12_tax_13 (qK_i (l2 p1))
theorem bkX12_tax_16 {b : Int} {mem : qm} {Q : Int → qm → Prop}
    {v v2 : Int}
    {P2 : Int → qm → Prop}
    (l1 : 7 ≤ v2 → q_Ev yX12_lay cX12_lay 5 none 1 0 0 [(2, 188), (2, 205), (0, 0)] (q_sh0, q_rb b, mem) (qK (q_rb b) (P2)))
    (l2 : 7 ≤ v2 → ∀ (r2 : Int), ∀ (m2 : qm), P2 r2 m2 → q_in32 r2 → q_At yX12_tax cX12_tax 7 (some .int) 3 0 0 (qK (q_rb b) Q) 79 [(2, 188), (0, v), (0, 0), (0, 0), (4, 0), (4, 0), (4, 0)] [] (q_sh0, q_rb b, m2))
    (o3 : v2 < 7 → (0 ≤ v2 ∧ v2 < 7))
    (l4 : v2 < 7 → q_At yX12_tax cX12_tax 7 (some .int) 3 0 0 (qK (q_rb b) Q) 31 [(2, 188), (0, v), (0, v2), (0, 0), (4, 0), (4, 0), (4, 0)] [] (q_sh0, q_rb b, (q_up mem 219 v2 0))) :
    q_At yX12_tax cX12_tax 7 (some .int) 3 0 0 (qK (q_rb b) Q) 16 [(2, 188), (0, v), (0, v2), (4, 0), (4, 0), (4, 0), (4, 0)] [] (q_sh0, q_rb b, mem) := by
  refine q_iload_n dX12_tax_16 rfl rfl ?_
  refine qx_bipush dX12_tax_17 rfl rfl ?_
  refine qx_icmp_ge (tgt := 66) dX12_tax_19 (by decide) (fun c1 => ?_) (fun c1 => ?_)
  · skip
    refine q_aload_n dX12_tax_66 rfl rfl ?_
    refine q_aload_n dX12_tax_67 rfl rfl ?_
    refine q_getR (ci := 12) (k := 31) dX12_tax_68 rfl (by decide) rfl tw1214 (by decide) qs188 qw188_31 (by decide) ?_
    refine qx_iconst dX12_tax_71 rfl rfl ?_
    refine qx_invV (ci := 12) [(2, 205), (0, 0)] [(0, 0), (2, 205), (2, 188)] rfl qM_X12_lay dX12_tax_72 tw1470 rfl qs188 rfl rfl rfl rfl (l1 c1) (fun r2 m2 p2 q2 => ?_)
    refine qx_iconst dX12_tax_75 rfl rfl ?_
    refine qx_istore_n (L' := [(2, 188), (0, v), (0, 0), (4, 0), (4, 0), (4, 0), (4, 0)]) dX12_tax_76 rfl rfl rfl rfl ?_
    refine qx_iconst dX12_tax_77 rfl rfl ?_
    refine qx_istore_n (L' := [(2, 188), (0, v), (0, 0), (0, 0), (4, 0), (4, 0), (4, 0)]) dX12_tax_78 rfl rfl rfl rfl ?_
    exact l2 c1 r2 m2 p2 q2
  · skip
    refine q_aload_n dX12_tax_22 rfl rfl ?_
    refine q_getR (ci := 12) (k := 47) dX12_tax_23 rfl (by decide) rfl tw1230 (by decide) qs188 qw188_47 (by decide) ?_
    refine q_iload_n dX12_tax_26 rfl rfl ?_
    refine qx_iconst dX12_tax_27 rfl rfl ?_
    refine q_iast dX12_tax_28 qs219 ((o3 c1)).1 ((o3 c1)).2 ?_
    refine qx_iconst dX12_tax_29 rfl rfl ?_
    refine qx_istore_n (L' := [(2, 188), (0, v), (0, v2), (0, 0), (4, 0), (4, 0), (4, 0)]) dX12_tax_30 rfl rfl rfl rfl ?_
    exact l4 c1
theorem bkX12_tax_31 {b : Int} {mem : qm} {Q : Int → qm → Prop}
    {v v2 v3 : Int}
    (o1 : (mem 188 0) ≤ v3 → q_in32 (v2 + 1))
    (l2 : (mem 188 0) ≤ v3 → q_At yX12_tax cX12_tax 7 (some .int) 3 0 0 (qK (q_rb b) Q) 16 [(2, 188), (0, v), (0, (v2 + 1)), (4, 0), (4, 0), (4, 0), (4, 0)] [] (q_sh0, q_rb b, mem))
    (o3 : v3 < (mem 188 0) → (0 ≤ v2 ∧ v2 < 7))
    {P2 : Int → qm → Prop}
    (l4 : v3 < (mem 188 0) → q_Ev yX12_shareOf cX12_shareOf 5 (some .int) 1 0 0 [(2, 188), (0, v3), (0, v2)] (q_sh0, q_rb b, mem) (qK (q_rb b) (P2)))
    (o5 : v3 < (mem 188 0) → ∀ (r2 : Int), ∀ (m2 : qm), P2 r2 m2 → q_in32 r2 → q_in32 ((mem 219 v2) + r2) ∧ q_in32 (v3 + 1))
    (l6 : v3 < (mem 188 0) → ∀ (r2 : Int), ∀ (m2 : qm), P2 r2 m2 → q_in32 r2 → q_At yX12_tax cX12_tax 7 (some .int) 3 0 0 (qK (q_rb b) Q) 31 [(2, 188), (0, v), (0, v2), (0, (v3 + 1)), (4, 0), (4, 0), (4, 0)] [] (q_sh0, q_rb b, (q_up m2 219 v2 ((mem 219 v2) + r2)))) :
    q_At yX12_tax cX12_tax 7 (some .int) 3 0 0 (qK (q_rb b) Q) 31 [(2, 188), (0, v), (0, v2), (0, v3), (4, 0), (4, 0), (4, 0)] [] (q_sh0, q_rb b, mem) := by
  refine q_iload_n dX12_tax_31 rfl rfl ?_
  refine q_aload_n dX12_tax_32 rfl rfl ?_
  refine qx_getI (ci := 12) (k := 0) (v := (mem 188 0)) dX12_tax_33 rfl rfl rfl tw1183 rfl qs188 rfl ?_
  refine qx_icmp_ge (tgt := 60) dX12_tax_36 (by decide) (fun c1 => ?_) (fun c1 => ?_)
  · skip
    refine qx_iinc (L' := [(2, 188), (0, v), (0, (v2 + 1)), (0, v3), (4, 0), (4, 0), (4, 0)]) dX12_tax_60 rfl rfl rfl (o1 c1) rfl ?_
    refine q_goto (tgt := 16) dX12_tax_63 (by decide) ?_
    refine q_kill (L' := [(2, 188), (0, v), (0, (v2 + 1)), (4, 0), (4, 0), (4, 0), (4, 0)]) 3 rfl ?_
    exact l2 c1
  · skip
    refine q_aload_n dX12_tax_39 rfl rfl ?_
    refine q_getR (ci := 12) (k := 47) dX12_tax_40 rfl (by decide) rfl tw1230 (by decide) qs188 qw188_47 (by decide) ?_
    refine q_iload_n dX12_tax_43 rfl rfl ?_
    refine q_dup2 dX12_tax_44 (fun h => by cases h) (fun h => by cases h) ?_
    refine qx_iald (v := (mem 219 v2)) dX12_tax_45 qs219 (o3 c1) rfl ?_
    refine q_aload_n dX12_tax_46 rfl rfl ?_
    refine q_iload_n dX12_tax_47 rfl rfl ?_
    refine q_iload_n dX12_tax_48 rfl rfl ?_
    refine qx_invV (ci := 12) [(0, v3), (0, v2)] [(0, v2), (0, v3), (2, 188), (0, (mem 219 v2)), (0, v2), (2, 219)] rfl qM_X12_shareOf dX12_tax_49 tw1683 rfl qs188 rfl rfl rfl rfl (l4 c1) (fun r2 m2 p2 q2 => ?_)
    refine qx_iadd dX12_tax_52 (o5 c1 r2 m2 p2 q2).1 ?_
    refine q_iast dX12_tax_53 qs219 ((o3 c1)).1 ((o3 c1)).2 ?_
    refine qx_iinc (L' := [(2, 188), (0, v), (0, v2), (0, (v3 + 1)), (4, 0), (4, 0), (4, 0)]) dX12_tax_54 rfl rfl rfl (o5 c1 r2 m2 p2 q2).2 rfl ?_
    refine q_goto (tgt := 31) dX12_tax_57 (by decide) ?_
    exact l6 c1 r2 m2 p2 q2
theorem bkX12_tax_79 {b : Int} {mem : qm} {Q : Int → qm → Prop}
    {v v2 v3 : Int}
    (l1 : v ≤ v3 → q_At yX12_tax cX12_tax 7 (some .int) 3 0 0 (qK (q_rb b) Q) 99 [(2, 188), (0, v), (0, v2), (0, 0), (4, 0), (4, 0), (4, 0)] [] (q_sh0, q_rb b, mem))
    {P2 : Int → qm → Prop}
    (l2 : v3 < v → q_Ev yX12_goBell cX12_goBell 6 (some .int) 2 0 0 [(2, 188)] (q_sh0, q_rb b, mem) (qK (q_rb b) (P2)))
    (o3 : v3 < v → ∀ (r2 : Int), ∀ (m2 : qm), P2 r2 m2 → q_in32 r2 → q_in32 (v2 + r2) ∧ q_in32 (v3 + 1))
    (l4 : v3 < v → ∀ (r2 : Int), ∀ (m2 : qm), P2 r2 m2 → q_in32 r2 → q_At yX12_tax cX12_tax 7 (some .int) 3 0 0 (qK (q_rb b) Q) 79 [(2, 188), (0, v), (0, (v2 + r2)), (0, (v3 + 1)), (4, 0), (4, 0), (4, 0)] [] (q_sh0, q_rb b, m2)) :
    q_At yX12_tax cX12_tax 7 (some .int) 3 0 0 (qK (q_rb b) Q) 79 [(2, 188), (0, v), (0, v2), (0, v3), (4, 0), (4, 0), (4, 0)] [] (q_sh0, q_rb b, mem) := by
  refine q_iload_n dX12_tax_79 rfl rfl ?_
  refine q_iload_n dX12_tax_80 rfl rfl ?_
  refine qx_icmp_ge (tgt := 97) dX12_tax_81 (by decide) (fun c1 => ?_) (fun c1 => ?_)
  · skip
    refine qx_iconst dX12_tax_97 rfl rfl ?_
    refine qx_istore_n (L' := [(2, 188), (0, v), (0, v2), (0, 0), (4, 0), (4, 0), (4, 0)]) dX12_tax_98 rfl rfl rfl rfl ?_
    exact l1 c1
  · skip
    refine q_iload_n dX12_tax_84 rfl rfl ?_
    refine q_aload_n dX12_tax_85 rfl rfl ?_
    refine qx_invV (ci := 12) [] [(2, 188), (0, v2)] rfl qM_X12_goBell dX12_tax_86 tw1505 rfl qs188 rfl rfl rfl rfl (l2 c1) (fun r2 m2 p2 q2 => ?_)
    refine qx_iadd dX12_tax_89 (o3 c1 r2 m2 p2 q2).1 ?_
    refine qx_istore_n (L' := [(2, 188), (0, v), (0, (v2 + r2)), (0, v3), (4, 0), (4, 0), (4, 0)]) dX12_tax_90 rfl rfl rfl rfl ?_
    refine qx_iinc (L' := [(2, 188), (0, v), (0, (v2 + r2)), (0, (v3 + 1)), (4, 0), (4, 0), (4, 0)]) dX12_tax_91 rfl rfl rfl (o3 c1 r2 m2 p2 q2).2 rfl ?_
    refine q_goto (tgt := 79) dX12_tax_94 (by decide) ?_
    exact l4 c1 r2 m2 p2 q2
theorem bkX12_tax_99 {b : Int} {mem : qm} {Q : Int → qm → Prop}
    {v v2 v3 : Int}
    {P2 : Int → qm → Prop}
    (l1 : 7 ≤ v3 → q_Ev yX12_bring cX12_bring 5 none 1 0 0 [(2, 188), (2, 205), (0, 0)] (q_sh0, q_rb b, mem) (qK (q_rb b) (P2)))
    (l2 : 7 ≤ v3 → ∀ (r2 : Int), ∀ (m2 : qm), P2 r2 m2 → q_in32 r2 → q_At yX12_tax cX12_tax 7 (some .int) 3 0 0 (qK (q_rb b) Q) 171 [(2, 188), (0, v), (0, v2), (2, 219), (0, 7), (0, 0), (4, 0)] [] (q_sh0, q_rb b, (q_up m2 188 16 0)))
    (l3 : v3 < 7 → q_At yX12_tax cX12_tax 7 (some .int) 3 0 0 (qK (q_rb b) Q) 108 [(2, 188), (0, v), (0, v2), (0, v3), (0, 0), (4, 0), (4, 0)] [] (q_sh0, q_rb b, mem)) :
    q_At yX12_tax cX12_tax 7 (some .int) 3 0 0 (qK (q_rb b) Q) 99 [(2, 188), (0, v), (0, v2), (0, v3), (4, 0), (4, 0), (4, 0)] [] (q_sh0, q_rb b, mem) := by
  refine q_iload_n dX12_tax_99 rfl rfl ?_
  refine qx_bipush dX12_tax_100 rfl rfl ?_
  refine qx_icmp_ge (tgt := 145) dX12_tax_102 (by decide) (fun c1 => ?_) (fun c1 => ?_)
  · skip
    refine q_aload_n dX12_tax_145 rfl rfl ?_
    refine q_aload_n dX12_tax_146 rfl rfl ?_
    refine q_getR (ci := 12) (k := 31) dX12_tax_147 rfl (by decide) rfl tw1214 (by decide) qs188 qw188_31 (by decide) ?_
    refine qx_iconst dX12_tax_150 rfl rfl ?_
    refine qx_invV (ci := 12) [(2, 205), (0, 0)] [(0, 0), (2, 205), (2, 188)] rfl qM_X12_bring dX12_tax_151 tw1521 rfl qs188 rfl rfl rfl rfl (l1 c1) (fun r2 m2 p2 q2 => ?_)
    refine q_aload_n dX12_tax_154 rfl rfl ?_
    refine qx_iconst dX12_tax_155 rfl rfl ?_
    refine q_putI (ci := 12) (k := 16) (kI := 16) (ty := .int) dX12_tax_156 rfl (by decide) rfl tw1199 rfl rfl rfl (fun _ => ⟨rfl, rfl⟩) qs188 ?_
    refine q_aload_n dX12_tax_159 rfl rfl ?_
    refine q_getR (ci := 12) (k := 47) dX12_tax_160 rfl (by decide) rfl tw1230 (by decide) qs188 qw188_47 (by decide) ?_
    refine qx_astore_n (L' := [(2, 188), (0, v), (0, v2), (2, 219), (4, 0), (4, 0), (4, 0)]) dX12_tax_163 rfl rfl rfl rfl ?_
    refine q_aload_n dX12_tax_164 rfl rfl ?_
    refine q_alen0 dX12_tax_165 qs219 (by decide) ?_
    refine qx_istore (L' := [(2, 188), (0, v), (0, v2), (2, 219), (0, 7), (4, 0), (4, 0)]) dX12_tax_166 rfl rfl rfl ?_
    refine qx_iconst dX12_tax_168 rfl rfl ?_
    refine qx_istore (L' := [(2, 188), (0, v), (0, v2), (2, 219), (0, 7), (0, 0), (4, 0)]) dX12_tax_169 rfl rfl rfl ?_
    exact l2 c1 r2 m2 p2 q2
  · skip
    refine qx_iconst dX12_tax_105 rfl rfl ?_
    refine qx_istore (L' := [(2, 188), (0, v), (0, v2), (0, v3), (0, 0), (4, 0), (4, 0)]) dX12_tax_106 rfl rfl rfl ?_
    exact l3 c1
theorem bkX12_tax_108 {b : Int} {mem : qm} {Q : Int → qm → Prop}
    {v v2 v3 v4 : Int}
    (o1 : (mem 188 0) ≤ v4 → q_in32 (v3 + 1))
    (l2 : (mem 188 0) ≤ v4 → q_At yX12_tax cX12_tax 7 (some .int) 3 0 0 (qK (q_rb b) Q) 99 [(2, 188), (0, v), (0, v2), (0, (v3 + 1)), (4, 0), (4, 0), (4, 0)] [] (q_sh0, q_rb b, mem))
    (o3 : v4 < (mem 188 0) → (0 ≤ v3 ∧ v3 < 7))
    {P2 : Int → qm → Prop}
    (l4 : v4 < (mem 188 0) → q_Ev yX12_shareOf cX12_shareOf 5 (some .int) 1 0 0 [(2, 188), (0, v4), (0, v3)] (q_sh0, q_rb b, mem) (qK (q_rb b) (P2)))
    (o5 : v4 < (mem 188 0) → ∀ (r2 : Int), ∀ (m2 : qm), P2 r2 m2 → q_in32 r2 → q_in32 ((mem 219 v3) - r2) ∧ q_in32 (v4 + 1))
    (l6 : v4 < (mem 188 0) → ∀ (r2 : Int), ∀ (m2 : qm), P2 r2 m2 → q_in32 r2 → q_At yX12_tax cX12_tax 7 (some .int) 3 0 0 (qK (q_rb b) Q) 108 [(2, 188), (0, v), (0, v2), (0, v3), (0, (v4 + 1)), (4, 0), (4, 0)] [] (q_sh0, q_rb b, (q_up m2 219 v3 ((mem 219 v3) - r2)))) :
    q_At yX12_tax cX12_tax 7 (some .int) 3 0 0 (qK (q_rb b) Q) 108 [(2, 188), (0, v), (0, v2), (0, v3), (0, v4), (4, 0), (4, 0)] [] (q_sh0, q_rb b, mem) := by
  refine q_iload dX12_tax_108 rfl ?_
  refine q_aload_n dX12_tax_110 rfl rfl ?_
  refine qx_getI (ci := 12) (k := 0) (v := (mem 188 0)) dX12_tax_111 rfl rfl rfl tw1183 rfl qs188 rfl ?_
  refine qx_icmp_ge (tgt := 139) dX12_tax_114 (by decide) (fun c1 => ?_) (fun c1 => ?_)
  · skip
    refine qx_iinc (L' := [(2, 188), (0, v), (0, v2), (0, (v3 + 1)), (0, v4), (4, 0), (4, 0)]) dX12_tax_139 rfl rfl rfl (o1 c1) rfl ?_
    refine q_goto (tgt := 99) dX12_tax_142 (by decide) ?_
    refine q_kill (L' := [(2, 188), (0, v), (0, v2), (0, (v3 + 1)), (4, 0), (4, 0), (4, 0)]) 4 rfl ?_
    exact l2 c1
  · skip
    refine q_aload_n dX12_tax_117 rfl rfl ?_
    refine q_getR (ci := 12) (k := 47) dX12_tax_118 rfl (by decide) rfl tw1230 (by decide) qs188 qw188_47 (by decide) ?_
    refine q_iload_n dX12_tax_121 rfl rfl ?_
    refine q_dup2 dX12_tax_122 (fun h => by cases h) (fun h => by cases h) ?_
    refine qx_iald (v := (mem 219 v3)) dX12_tax_123 qs219 (o3 c1) rfl ?_
    refine q_aload_n dX12_tax_124 rfl rfl ?_
    refine q_iload dX12_tax_125 rfl ?_
    refine q_iload_n dX12_tax_127 rfl rfl ?_
    refine qx_invV (ci := 12) [(0, v4), (0, v3)] [(0, v3), (0, v4), (2, 188), (0, (mem 219 v3)), (0, v3), (2, 219)] rfl qM_X12_shareOf dX12_tax_128 tw1683 rfl qs188 rfl rfl rfl rfl (l4 c1) (fun r2 m2 p2 q2 => ?_)
    refine qx_isub dX12_tax_131 (o5 c1 r2 m2 p2 q2).1 ?_
    refine q_iast dX12_tax_132 qs219 ((o3 c1)).1 ((o3 c1)).2 ?_
    refine qx_iinc (L' := [(2, 188), (0, v), (0, v2), (0, v3), (0, (v4 + 1)), (4, 0), (4, 0)]) dX12_tax_133 rfl rfl rfl (o5 c1 r2 m2 p2 q2).2 rfl ?_
    refine q_goto (tgt := 108) dX12_tax_136 (by decide) ?_
    exact l6 c1 r2 m2 p2 q2
theorem bkX12_tax_171 {b : Int} {mem : qm} {Q : Int → qm → Prop}
    {v v2 v4 v5 : Int}
    (l1 : v4 ≤ v5 → Q v2 mem)
    (o2 : v5 < v4 → (0 ≤ v5 ∧ v5 < 7) ∧ (0 ≤ (mem 188 16) ∧ (mem 188 16) < 16) ∧ q_in32 (v5 + 1))
    (l3 : v5 < v4 → q_At yX12_tax cX12_tax 7 (some .int) 3 0 0 (qK (q_rb b) Q) 171 [(2, 188), (0, v), (0, v2), (2, 219), (0, v4), (0, (v5 + 1)), (4, 0)] [] (q_sh0, q_rb b, (q_up (q_up mem 199 (mem 188 16) (mem 219 v5)) 188 16 ((mem 188 16) + 1)))) :
    q_At yX12_tax cX12_tax 7 (some .int) 3 0 0 (qK (q_rb b) Q) 171 [(2, 188), (0, v), (0, v2), (2, 219), (0, v4), (0, v5), (4, 0)] [] (q_sh0, q_rb b, mem) := by
  refine q_iload dX12_tax_171 rfl ?_
  refine q_iload dX12_tax_173 rfl ?_
  refine qx_icmp_ge (tgt := 196) dX12_tax_175 (by decide) (fun c1 => ?_) (fun c1 => ?_)
  · skip
    refine q_iload_n dX12_tax_196 rfl rfl ?_
    exact q_iret dX12_tax_197 (qK_i (l1 c1))
  · skip
    refine q_aload_n dX12_tax_178 rfl rfl ?_
    refine q_iload dX12_tax_179 rfl ?_
    refine qx_iald (v := (mem 219 v5)) dX12_tax_181 qs219 (o2 c1).1 rfl ?_
    refine qx_istore (L' := [(2, 188), (0, v), (0, v2), (2, 219), (0, v4), (0, v5), (0, (mem 219 v5))]) dX12_tax_182 rfl rfl rfl ?_
    refine q_aload_n dX12_tax_184 rfl rfl ?_
    refine q_iload dX12_tax_185 rfl ?_
    refine qx_invV (ci := 12) [(0, (mem 219 v5))] [(0, (mem 219 v5)), (2, 188)] rfl qM_X12_tell dX12_tax_187 tw1509 rfl qs188 rfl rfl rfl rfl (spX12_tell (o2 c1).2.1) (fun r2 m2 p2 q2 => ?_)
    obtain rfl := p2
    refine qx_iinc (L' := [(2, 188), (0, v), (0, v2), (2, 219), (0, v4), (0, (v5 + 1)), (0, (mem 219 v5))]) dX12_tax_190 rfl rfl rfl (o2 c1).2.2 rfl ?_
    refine q_goto (tgt := 171) dX12_tax_193 (by decide) ?_
    refine q_kill (L' := [(2, 188), (0, v), (0, v2), (2, 219), (0, v4), (0, (v5 + 1)), (4, 0)]) 6 rfl ?_
    exact l3 c1
theorem dX12_keep_0 : decode cX12_keep 0 = .ok (.aload_n 0, 1) := by decide +kernel
theorem dX12_keep_1 : decode cX12_keep 1 = .ok (.iconst 0, 1) := by decide +kernel
theorem dX12_keep_2 : decode cX12_keep 2 = .ok (.putfield 128, 3) := by decide +kernel
theorem dX12_keep_5 : decode cX12_keep 5 = .ok (.iload_n 1, 1) := by decide +kernel
theorem dX12_keep_6 : decode cX12_keep 6 = .ok (.iconst 0, 1) := by decide +kernel
theorem dX12_keep_7 : decode cX12_keep 7 = .ok (.iconst 1, 1) := by decide +kernel
theorem dX12_keep_8 : decode cX12_keep 8 = .ok (.invokestatic 137, 3) := by decide +kernel
theorem dX12_keep_11 : decode cX12_keep 11 = .ok (.ifCond .ne 5, 3) := by decide +kernel
theorem dX12_keep_14 : decode cX12_keep 14 = .ok (.iconst 0, 1) := by decide +kernel
theorem dX12_keep_15 : decode cX12_keep 15 = .ok (.ireturn, 1) := by decide +kernel
theorem dX12_keep_16 : decode cX12_keep 16 = .ok (.aload_n 0, 1) := by decide +kernel
theorem dX12_keep_17 : decode cX12_keep 17 = .ok (.getfield 121, 3) := by decide +kernel
theorem dX12_keep_20 : decode cX12_keep 20 = .ok (.iload_n 1, 1) := by decide +kernel
theorem dX12_keep_21 : decode cX12_keep 21 = .ok (.iconst 1, 1) := by decide +kernel
theorem dX12_keep_22 : decode cX12_keep 22 = .ok (.bastore, 1) := by decide +kernel
theorem dX12_keep_23 : decode cX12_keep 23 = .ok (.aload_n 0, 1) := by decide +kernel
theorem dX12_keep_24 : decode cX12_keep 24 = .ok (.getfield 125, 3) := by decide +kernel
theorem dX12_keep_27 : decode cX12_keep 27 = .ok (.iload_n 1, 1) := by decide +kernel
theorem dX12_keep_28 : decode cX12_keep 28 = .ok (.aload_n 0, 1) := by decide +kernel
theorem dX12_keep_29 : decode cX12_keep 29 = .ok (.getfield 194, 3) := by decide +kernel
theorem dX12_keep_32 : decode cX12_keep 32 = .ok (.iastore, 1) := by decide +kernel
theorem dX12_keep_33 : decode cX12_keep 33 = .ok (.sipush 615, 3) := by decide +kernel
theorem dX12_keep_36 : decode cX12_keep 36 = .ok (.iload_n 1, 1) := by decide +kernel
theorem dX12_keep_37 : decode cX12_keep 37 = .ok (.imul, 1) := by decide +kernel
theorem dX12_keep_38 : decode cX12_keep 38 = .ok (.istore_n 2, 1) := by decide +kernel
theorem dX12_keep_39 : decode cX12_keep 39 = .ok (.aload_n 0, 1) := by decide +kernel
theorem dX12_keep_40 : decode cX12_keep 40 = .ok (.aload_n 0, 1) := by decide +kernel
theorem dX12_keep_41 : decode cX12_keep 41 = .ok (.getfield 118, 3) := by decide +kernel
theorem dX12_keep_44 : decode cX12_keep 44 = .ok (.iload_n 2, 1) := by decide +kernel
theorem dX12_keep_45 : decode cX12_keep 45 = .ok (.invokevirtual 250, 3) := by decide +kernel
theorem dX12_keep_48 : decode cX12_keep 48 = .ok (.iinc 2 597, 6) := by decide +kernel
theorem dX12_keep_54 : decode cX12_keep 54 = .ok (.iconst 0, 1) := by decide +kernel
theorem dX12_keep_55 : decode cX12_keep 55 = .ok (.istore_n 3, 1) := by decide +kernel
theorem dX12_keep_56 : decode cX12_keep 56 = .ok (.iload_n 3, 1) := by decide +kernel
theorem dX12_keep_57 : decode cX12_keep 57 = .ok (.bipush 9, 2) := by decide +kernel
theorem dX12_keep_59 : decode cX12_keep 59 = .ok (.if_icmp .ge 43, 3) := by decide +kernel
theorem dX12_keep_62 : decode cX12_keep 62 = .ok (.aload_n 0, 1) := by decide +kernel
theorem dX12_keep_63 : decode cX12_keep 63 = .ok (.getfield 118, 3) := by decide +kernel
theorem dX12_keep_66 : decode cX12_keep 66 = .ok (.iload_n 2, 1) := by decide +kernel
theorem dX12_keep_67 : decode cX12_keep 67 = .ok (.iconst 2, 1) := by decide +kernel
theorem dX12_keep_68 : decode cX12_keep 68 = .ok (.iload_n 3, 1) := by decide +kernel
theorem dX12_keep_69 : decode cX12_keep 69 = .ok (.imul, 1) := by decide +kernel
theorem dX12_keep_70 : decode cX12_keep 70 = .ok (.iadd, 1) := by decide +kernel
theorem dX12_keep_71 : decode cX12_keep 71 = .ok (.aload_n 0, 1) := by decide +kernel
theorem dX12_keep_72 : decode cX12_keep 72 = .ok (.getfield 16, 3) := by decide +kernel
theorem dX12_keep_75 : decode cX12_keep 75 = .ok (.iload_n 3, 1) := by decide +kernel
theorem dX12_keep_76 : decode cX12_keep 76 = .ok (.iaload, 1) := by decide +kernel
theorem dX12_keep_77 : decode cX12_keep 77 = .ok (.iastore, 1) := by decide +kernel
theorem dX12_keep_78 : decode cX12_keep 78 = .ok (.aload_n 0, 1) := by decide +kernel
theorem dX12_keep_79 : decode cX12_keep 79 = .ok (.getfield 118, 3) := by decide +kernel
theorem dX12_keep_82 : decode cX12_keep 82 = .ok (.iload_n 2, 1) := by decide +kernel
theorem dX12_keep_83 : decode cX12_keep 83 = .ok (.iconst 2, 1) := by decide +kernel
theorem dX12_keep_84 : decode cX12_keep 84 = .ok (.iload_n 3, 1) := by decide +kernel
theorem dX12_keep_85 : decode cX12_keep 85 = .ok (.imul, 1) := by decide +kernel
theorem dX12_keep_86 : decode cX12_keep 86 = .ok (.iadd, 1) := by decide +kernel
theorem dX12_keep_87 : decode cX12_keep 87 = .ok (.iconst 1, 1) := by decide +kernel
theorem dX12_keep_88 : decode cX12_keep 88 = .ok (.iadd, 1) := by decide +kernel
theorem dX12_keep_89 : decode cX12_keep 89 = .ok (.aload_n 0, 1) := by decide +kernel
theorem dX12_keep_90 : decode cX12_keep 90 = .ok (.getfield 25, 3) := by decide +kernel
theorem dX12_keep_93 : decode cX12_keep 93 = .ok (.iload_n 3, 1) := by decide +kernel
theorem dX12_keep_94 : decode cX12_keep 94 = .ok (.iaload, 1) := by decide +kernel
theorem dX12_keep_95 : decode cX12_keep 95 = .ok (.iastore, 1) := by decide +kernel
theorem dX12_keep_96 : decode cX12_keep 96 = .ok (.iinc 3 1, 3) := by decide +kernel
theorem dX12_keep_99 : decode cX12_keep 99 = .ok (.goto (-43), 3) := by decide +kernel
theorem dX12_keep_102 : decode cX12_keep 102 = .ok (.iconst 1, 1) := by decide +kernel
theorem dX12_keep_103 : decode cX12_keep 103 = .ok (.ireturn, 1) := by decide +kernel
theorem bkX12_keep_0 {b : Int} {mem : qm} {Q : Int → qm → Prop}
    {v : Int}
    (o1 : (0 ≤ v ∧ v ≤ 1) → (0 ≤ v ∧ v < 2) ∧ vp_nar .boolean (Int32.ofInt 1) = Int32.ofInt 1 ∧ q_in32 (615 * v))
    {P2 : Int → qm → Prop}
    (l2 : (0 ≤ v ∧ v ≤ 1) → q_Ev yX12_lay cX12_lay 5 none 1 0 0 [(2, 188), (2, 222), (0, (615 * v))] (q_sh0, q_rb b, (q_up (q_up (q_up mem 188 17 0) 223 v 1) 224 v (mem 188 51))) (qK (q_rb b) (P2)))
    (o3 : (0 ≤ v ∧ v ≤ 1) → ∀ (r2 : Int), ∀ (m2 : qm), P2 r2 m2 → q_in32 r2 → q_in32 ((615 * v) + 597))
    (l4 : (0 ≤ v ∧ v ≤ 1) → ∀ (r2 : Int), ∀ (m2 : qm), P2 r2 m2 → q_in32 r2 → q_At yX12_keep cX12_keep 4 (some .boolean) 2 0 0 (qK (q_rb b) Q) 56 [(2, 188), (0, v), (0, ((615 * v) + 597)), (0, 0)] [] (q_sh0, q_rb b, m2))
    (l5 : ¬ (0 ≤ v ∧ v ≤ 1) → Q 0 (q_up mem 188 17 0)) :
    q_At yX12_keep cX12_keep 4 (some .boolean) 2 0 0 (qK (q_rb b) Q) 0 [(2, 188), (0, v), (4, 0), (4, 0)] [] (q_sh0, q_rb b, mem) := by
  refine q_aload_n dX12_keep_0 rfl rfl ?_
  refine qx_iconst dX12_keep_1 rfl rfl ?_
  refine q_putI (ci := 12) (k := 17) (kI := 17) (ty := .int) dX12_keep_2 rfl (by decide) rfl tw1200 rfl rfl rfl (fun _ => ⟨rfl, rfl⟩) qs188 ?_
  refine q_iload_n dX12_keep_5 rfl rfl ?_
  refine qx_iconst dX12_keep_6 rfl rfl ?_
  refine qx_iconst dX12_keep_7 rfl rfl ?_
  refine qx_invS [(0, v), (0, 0), (0, 1)] [(0, 1), (0, 0), (0, v)] rfl qM_X12_in dX12_keep_8 tw1362 rfl rfl rfl rfl (spX12_in) (fun r1 m1 p1 q1 => ?_)
  obtain ⟨p1e, ⟨p1f, p1⟩ | ⟨p1f, p1⟩⟩ := p1
  · rw [p1e, p1f]
    refine qx_if_ne (tgt := 16) dX12_keep_11 (by decide) (fun _ => ?_) (fun z => absurd z (by decide))
    refine q_aload_n dX12_keep_16 rfl rfl ?_
    refine q_getR (ci := 12) (k := 53) dX12_keep_17 rfl (by decide) rfl tw1236 (by decide) qs188 qw188_53 (by decide) ?_
    refine q_iload_n dX12_keep_20 rfl rfl ?_
    refine qx_iconst dX12_keep_21 rfl rfl ?_
    refine q_zast dX12_keep_22 qs223 ((o1 p1).1).1 ((o1 p1).1).2 (o1 p1).2.1 ?_
    refine q_aload_n dX12_keep_23 rfl rfl ?_
    refine q_getR (ci := 12) (k := 54) dX12_keep_24 rfl (by decide) rfl tw1237 (by decide) qs188 qw188_54 (by decide) ?_
    refine q_iload_n dX12_keep_27 rfl rfl ?_
    refine q_aload_n dX12_keep_28 rfl rfl ?_
    refine qx_getI (ci := 12) (k := 51) (v := (mem 188 51)) dX12_keep_29 rfl rfl rfl tw1234 rfl qs188 ((q_up_c (by decide)).trans (q_up_i (by decide))) ?_
    refine q_iast dX12_keep_32 qs224 ((o1 p1).1).1 ((o1 p1).1).2 ?_
    refine qx_sipush dX12_keep_33 rfl rfl ?_
    refine q_iload_n dX12_keep_36 rfl rfl ?_
    refine qx_imul dX12_keep_37 (o1 p1).2.2 ?_
    refine qx_istore_n (L' := [(2, 188), (0, v), (0, (615 * v)), (4, 0)]) dX12_keep_38 rfl rfl rfl rfl ?_
    refine q_aload_n dX12_keep_39 rfl rfl ?_
    refine q_aload_n dX12_keep_40 rfl rfl ?_
    refine q_getR (ci := 12) (k := 52) dX12_keep_41 rfl (by decide) rfl tw1235 (by decide) qs188 qw188_52 (by decide) ?_
    refine q_iload_n dX12_keep_44 rfl rfl ?_
    refine qx_invV (ci := 12) [(2, 222), (0, (615 * v))] [(0, (615 * v)), (2, 222), (2, 188)] rfl qM_X12_lay dX12_keep_45 tw1470 rfl qs188 rfl rfl rfl rfl (l2 p1) (fun r2 m2 p2 q2 => ?_)
    refine qx_iincW (L' := [(2, 188), (0, v), (0, ((615 * v) + 597)), (4, 0)]) dX12_keep_48 rfl rfl rfl (o3 p1 r2 m2 p2 q2) rfl ?_
    refine qx_iconst dX12_keep_54 rfl rfl ?_
    refine qx_istore_n (L' := [(2, 188), (0, v), (0, ((615 * v) + 597)), (0, 0)]) dX12_keep_55 rfl rfl rfl rfl ?_
    exact l4 p1 r2 m2 p2 q2
  · rw [p1e, p1f]
    refine qx_if_ne (tgt := 16) dX12_keep_11 (by decide) (fun z => absurd z (by decide)) (fun _ => ?_)
    refine qx_iconst dX12_keep_14 rfl rfl ?_
    exact q_zret dX12_keep_15 (by decide) (qK_i (l5 p1))
theorem bkX12_keep_56 {b : Int} {mem : qm} {Q : Int → qm → Prop}
    {v v2 v3 : Int}
    (l1 : 9 ≤ v3 → Q 1 mem)
    (o2 : v3 < 9 → q_in32 (2 * v3) ∧ q_in32 (v2 + (2 * v3)) ∧ (0 ≤ v3 ∧ v3 < 9) ∧ (0 ≤ (v2 + (2 * v3)) ∧ (v2 + (2 * v3)) < 1230) ∧ q_in32 ((v2 + (2 * v3)) + 1) ∧ (0 ≤ ((v2 + (2 * v3)) + 1) ∧ ((v2 + (2 * v3)) + 1) < 1230) ∧ q_in32 (v3 + 1))
    (l3 : v3 < 9 → q_At yX12_keep cX12_keep 4 (some .boolean) 2 0 0 (qK (q_rb b) Q) 56 [(2, 188), (0, v), (0, v2), (0, (v3 + 1))] [] (q_sh0, q_rb b, (q_up (q_up mem 222 (v2 + (2 * v3)) (mem 191 v3)) 222 ((v2 + (2 * v3)) + 1) (mem 194 v3)))) :
    q_At yX12_keep cX12_keep 4 (some .boolean) 2 0 0 (qK (q_rb b) Q) 56 [(2, 188), (0, v), (0, v2), (0, v3)] [] (q_sh0, q_rb b, mem) := by
  refine q_iload_n dX12_keep_56 rfl rfl ?_
  refine qx_bipush dX12_keep_57 rfl rfl ?_
  refine qx_icmp_ge (tgt := 102) dX12_keep_59 (by decide) (fun c1 => ?_) (fun c1 => ?_)
  · skip
    refine qx_iconst dX12_keep_102 rfl rfl ?_
    exact q_zret dX12_keep_103 (by decide) (qK_i (l1 c1))
  · skip
    refine q_aload_n dX12_keep_62 rfl rfl ?_
    refine q_getR (ci := 12) (k := 52) dX12_keep_63 rfl (by decide) rfl tw1235 (by decide) qs188 qw188_52 (by decide) ?_
    refine q_iload_n dX12_keep_66 rfl rfl ?_
    refine qx_iconst dX12_keep_67 rfl rfl ?_
    refine q_iload_n dX12_keep_68 rfl rfl ?_
    refine qx_imul dX12_keep_69 (o2 c1).1 ?_
    refine qx_iadd dX12_keep_70 (o2 c1).2.1 ?_
    refine q_aload_n dX12_keep_71 rfl rfl ?_
    refine q_getR (ci := 12) (k := 3) dX12_keep_72 rfl (by decide) rfl tw1186 (by decide) qs188 qw188_3 (by decide) ?_
    refine q_iload_n dX12_keep_75 rfl rfl ?_
    refine qx_iald (v := (mem 191 v3)) dX12_keep_76 qs191 (o2 c1).2.2.1 rfl ?_
    refine q_iast dX12_keep_77 qs222 ((o2 c1).2.2.2.1).1 ((o2 c1).2.2.2.1).2 ?_
    refine q_aload_n dX12_keep_78 rfl rfl ?_
    refine q_getR (ci := 12) (k := 52) dX12_keep_79 rfl (by decide) rfl tw1235 (by decide) qs188 qw188_52 (by decide) ?_
    refine q_iload_n dX12_keep_82 rfl rfl ?_
    refine qx_iconst dX12_keep_83 rfl rfl ?_
    refine q_iload_n dX12_keep_84 rfl rfl ?_
    refine qx_imul dX12_keep_85 (o2 c1).1 ?_
    refine qx_iadd dX12_keep_86 (o2 c1).2.1 ?_
    refine qx_iconst dX12_keep_87 rfl rfl ?_
    refine qx_iadd dX12_keep_88 (o2 c1).2.2.2.2.1 ?_
    refine q_aload_n dX12_keep_89 rfl rfl ?_
    refine q_getR (ci := 12) (k := 6) dX12_keep_90 rfl (by decide) rfl tw1189 (by decide) qs188 qw188_6 (by decide) ?_
    refine q_iload_n dX12_keep_93 rfl rfl ?_
    refine qx_iald (v := (mem 194 v3)) dX12_keep_94 qs194 (o2 c1).2.2.1 (q_up_c (by decide)) ?_
    refine q_iast dX12_keep_95 qs222 ((o2 c1).2.2.2.2.2.1).1 ((o2 c1).2.2.2.2.2.1).2 ?_
    refine qx_iinc (L' := [(2, 188), (0, v), (0, v2), (0, (v3 + 1))]) dX12_keep_96 rfl rfl rfl (o2 c1).2.2.2.2.2.2 rfl ?_
    refine q_goto (tgt := 56) dX12_keep_99 (by decide) ?_
    exact l3 c1
theorem dX12_again_0 : decode cX12_again 0 = .ok (.aload_n 0, 1) := by decide +kernel
theorem dX12_again_1 : decode cX12_again 1 = .ok (.iconst 0, 1) := by decide +kernel
theorem dX12_again_2 : decode cX12_again 2 = .ok (.putfield 128, 3) := by decide +kernel
theorem dX12_again_5 : decode cX12_again 5 = .ok (.iload_n 1, 1) := by decide +kernel
theorem dX12_again_6 : decode cX12_again 6 = .ok (.iconst 0, 1) := by decide +kernel
theorem dX12_again_7 : decode cX12_again 7 = .ok (.iconst 1, 1) := by decide +kernel
theorem dX12_again_8 : decode cX12_again 8 = .ok (.invokestatic 137, 3) := by decide +kernel
theorem dX12_again_11 : decode cX12_again 11 = .ok (.ifCond .eq 25, 3) := by decide +kernel
theorem dX12_again_14 : decode cX12_again 14 = .ok (.aload_n 0, 1) := by decide +kernel
theorem dX12_again_15 : decode cX12_again 15 = .ok (.getfield 121, 3) := by decide +kernel
theorem dX12_again_18 : decode cX12_again 18 = .ok (.iload_n 1, 1) := by decide +kernel
theorem dX12_again_19 : decode cX12_again 19 = .ok (.baload, 1) := by decide +kernel
theorem dX12_again_20 : decode cX12_again 20 = .ok (.ifCond .eq 16, 3) := by decide +kernel
theorem dX12_again_23 : decode cX12_again 23 = .ok (.aload_n 0, 1) := by decide +kernel
theorem dX12_again_24 : decode cX12_again 24 = .ok (.getfield 125, 3) := by decide +kernel
theorem dX12_again_27 : decode cX12_again 27 = .ok (.iload_n 1, 1) := by decide +kernel
theorem dX12_again_28 : decode cX12_again 28 = .ok (.iaload, 1) := by decide +kernel
theorem dX12_again_29 : decode cX12_again 29 = .ok (.aload_n 0, 1) := by decide +kernel
theorem dX12_again_30 : decode cX12_again 30 = .ok (.getfield 194, 3) := by decide +kernel
theorem dX12_again_33 : decode cX12_again 33 = .ok (.if_icmp .eq 5, 3) := by decide +kernel
theorem dX12_again_36 : decode cX12_again 36 = .ok (.iconst 0, 1) := by decide +kernel
theorem dX12_again_37 : decode cX12_again 37 = .ok (.ireturn, 1) := by decide +kernel
theorem dX12_again_38 : decode cX12_again 38 = .ok (.sipush 615, 3) := by decide +kernel
theorem dX12_again_41 : decode cX12_again 41 = .ok (.iload_n 1, 1) := by decide +kernel
theorem dX12_again_42 : decode cX12_again 42 = .ok (.imul, 1) := by decide +kernel
theorem dX12_again_43 : decode cX12_again 43 = .ok (.istore_n 2, 1) := by decide +kernel
theorem dX12_again_44 : decode cX12_again 44 = .ok (.aload_n 0, 1) := by decide +kernel
theorem dX12_again_45 : decode cX12_again 45 = .ok (.aload_n 0, 1) := by decide +kernel
theorem dX12_again_46 : decode cX12_again 46 = .ok (.getfield 118, 3) := by decide +kernel
theorem dX12_again_49 : decode cX12_again 49 = .ok (.iload_n 2, 1) := by decide +kernel
theorem dX12_again_50 : decode cX12_again 50 = .ok (.invokevirtual 283, 3) := by decide +kernel
theorem dX12_again_53 : decode cX12_again 53 = .ok (.iinc 2 597, 6) := by decide +kernel
theorem dX12_again_59 : decode cX12_again 59 = .ok (.iconst 0, 1) := by decide +kernel
theorem dX12_again_60 : decode cX12_again 60 = .ok (.istore_n 3, 1) := by decide +kernel
theorem dX12_again_61 : decode cX12_again 61 = .ok (.iload_n 3, 1) := by decide +kernel
theorem dX12_again_62 : decode cX12_again 62 = .ok (.aload_n 0, 1) := by decide +kernel
theorem dX12_again_63 : decode cX12_again 63 = .ok (.getfield 134, 3) := by decide +kernel
theorem dX12_again_66 : decode cX12_again 66 = .ok (.if_icmp .ge 43, 3) := by decide +kernel
theorem dX12_again_69 : decode cX12_again 69 = .ok (.aload_n 0, 1) := by decide +kernel
theorem dX12_again_70 : decode cX12_again 70 = .ok (.getfield 16, 3) := by decide +kernel
theorem dX12_again_73 : decode cX12_again 73 = .ok (.iload_n 3, 1) := by decide +kernel
theorem dX12_again_74 : decode cX12_again 74 = .ok (.aload_n 0, 1) := by decide +kernel
theorem dX12_again_75 : decode cX12_again 75 = .ok (.getfield 118, 3) := by decide +kernel
theorem dX12_again_78 : decode cX12_again 78 = .ok (.iload_n 2, 1) := by decide +kernel
theorem dX12_again_79 : decode cX12_again 79 = .ok (.iconst 2, 1) := by decide +kernel
theorem dX12_again_80 : decode cX12_again 80 = .ok (.iload_n 3, 1) := by decide +kernel
theorem dX12_again_81 : decode cX12_again 81 = .ok (.imul, 1) := by decide +kernel
theorem dX12_again_82 : decode cX12_again 82 = .ok (.iadd, 1) := by decide +kernel
theorem dX12_again_83 : decode cX12_again 83 = .ok (.iaload, 1) := by decide +kernel
theorem dX12_again_84 : decode cX12_again 84 = .ok (.iastore, 1) := by decide +kernel
theorem dX12_again_85 : decode cX12_again 85 = .ok (.aload_n 0, 1) := by decide +kernel
theorem dX12_again_86 : decode cX12_again 86 = .ok (.getfield 25, 3) := by decide +kernel
theorem dX12_again_89 : decode cX12_again 89 = .ok (.iload_n 3, 1) := by decide +kernel
theorem dX12_again_90 : decode cX12_again 90 = .ok (.aload_n 0, 1) := by decide +kernel
theorem dX12_again_91 : decode cX12_again 91 = .ok (.getfield 118, 3) := by decide +kernel
theorem dX12_again_94 : decode cX12_again 94 = .ok (.iload_n 2, 1) := by decide +kernel
theorem dX12_again_95 : decode cX12_again 95 = .ok (.iconst 2, 1) := by decide +kernel
theorem dX12_again_96 : decode cX12_again 96 = .ok (.iload_n 3, 1) := by decide +kernel
theorem dX12_again_97 : decode cX12_again 97 = .ok (.imul, 1) := by decide +kernel
theorem dX12_again_98 : decode cX12_again 98 = .ok (.iadd, 1) := by decide +kernel
theorem dX12_again_99 : decode cX12_again 99 = .ok (.iconst 1, 1) := by decide +kernel
theorem dX12_again_100 : decode cX12_again 100 = .ok (.iadd, 1) := by decide +kernel
theorem dX12_again_101 : decode cX12_again 101 = .ok (.iaload, 1) := by decide +kernel
theorem dX12_again_102 : decode cX12_again 102 = .ok (.iastore, 1) := by decide +kernel
theorem dX12_again_103 : decode cX12_again 103 = .ok (.iinc 3 1, 3) := by decide +kernel
theorem dX12_again_106 : decode cX12_again 106 = .ok (.goto (-45), 3) := by decide +kernel
theorem dX12_again_109 : decode cX12_again 109 = .ok (.aload_n 0, 1) := by decide +kernel
theorem dX12_again_110 : decode cX12_again 110 = .ok (.iconst 0, 1) := by decide +kernel
theorem dX12_again_111 : decode cX12_again 111 = .ok (.putfield 197, 3) := by decide +kernel
theorem dX12_again_114 : decode cX12_again 114 = .ok (.iconst 1, 1) := by decide +kernel
theorem dX12_again_115 : decode cX12_again 115 = .ok (.ireturn, 1) := by decide +kernel
theorem bkX12_again_0 {b : Int} {mem : qm} {Q : Int → qm → Prop}
    {v : Int}
    (o1 : (0 ≤ v ∧ v ≤ 1) → (0 ≤ v ∧ v < 2))
    (l2 : (0 ≤ v ∧ v ≤ 1) → (mem 223 v) = 0 → Q 0 (q_up mem 188 17 0))
    (o3 : (0 ≤ v ∧ v ≤ 1) → (mem 223 v) ≠ 0 → (mem 224 v) = (mem 188 51) → q_in32 (615 * v))
    {P4 : Int → qm → Prop}
    (l4 : (0 ≤ v ∧ v ≤ 1) → (mem 223 v) ≠ 0 → (mem 224 v) = (mem 188 51) → q_Ev yX12_bring cX12_bring 5 none 1 0 0 [(2, 188), (2, 222), (0, (615 * v))] (q_sh0, q_rb b, (q_up mem 188 17 0)) (qK (q_rb b) (P4)))
    (o5 : (0 ≤ v ∧ v ≤ 1) → (mem 223 v) ≠ 0 → (mem 224 v) = (mem 188 51) → ∀ (r4 : Int), ∀ (m4 : qm), P4 r4 m4 → q_in32 r4 → q_in32 ((615 * v) + 597))
    (l6 : (0 ≤ v ∧ v ≤ 1) → (mem 223 v) ≠ 0 → (mem 224 v) = (mem 188 51) → ∀ (r4 : Int), ∀ (m4 : qm), P4 r4 m4 → q_in32 r4 → q_At yX12_again cX12_again 4 (some .boolean) 2 0 0 (qK (q_rb b) Q) 61 [(2, 188), (0, v), (0, ((615 * v) + 597)), (0, 0)] [] (q_sh0, q_rb b, m4))
    (l7 : (0 ≤ v ∧ v ≤ 1) → (mem 223 v) ≠ 0 → (mem 224 v) ≠ (mem 188 51) → Q 0 (q_up mem 188 17 0))
    (l8 : ¬ (0 ≤ v ∧ v ≤ 1) → Q 0 (q_up mem 188 17 0)) :
    q_At yX12_again cX12_again 4 (some .boolean) 2 0 0 (qK (q_rb b) Q) 0 [(2, 188), (0, v), (4, 0), (4, 0)] [] (q_sh0, q_rb b, mem) := by
  refine q_aload_n dX12_again_0 rfl rfl ?_
  refine qx_iconst dX12_again_1 rfl rfl ?_
  refine q_putI (ci := 12) (k := 17) (kI := 17) (ty := .int) dX12_again_2 rfl (by decide) rfl tw1200 rfl rfl rfl (fun _ => ⟨rfl, rfl⟩) qs188 ?_
  refine q_iload_n dX12_again_5 rfl rfl ?_
  refine qx_iconst dX12_again_6 rfl rfl ?_
  refine qx_iconst dX12_again_7 rfl rfl ?_
  refine qx_invS [(0, v), (0, 0), (0, 1)] [(0, 1), (0, 0), (0, v)] rfl qM_X12_in dX12_again_8 tw1362 rfl rfl rfl rfl (spX12_in) (fun r1 m1 p1 q1 => ?_)
  obtain ⟨p1e, ⟨p1f, p1⟩ | ⟨p1f, p1⟩⟩ := p1
  · rw [p1e, p1f]
    refine qx_if_eq (tgt := 36) dX12_again_11 (by decide) (fun z => absurd z (by decide)) (fun _ => ?_)
    refine q_aload_n dX12_again_14 rfl rfl ?_
    refine q_getR (ci := 12) (k := 53) dX12_again_15 rfl (by decide) rfl tw1236 (by decide) qs188 qw188_53 (by decide) ?_
    refine q_iload_n dX12_again_18 rfl rfl ?_
    refine qx_zald (v := (mem 223 v)) dX12_again_19 qs223 (o1 p1) (q_up_c (by decide)) ?_
    refine qx_if_eq (tgt := 36) dX12_again_20 (by decide) (fun c2 => ?_) (fun c2 => ?_)
    · skip
      refine qx_iconst dX12_again_36 rfl rfl ?_
      exact q_zret dX12_again_37 (by decide) (qK_i (l2 p1 c2))
    · skip
      refine q_aload_n dX12_again_23 rfl rfl ?_
      refine q_getR (ci := 12) (k := 54) dX12_again_24 rfl (by decide) rfl tw1237 (by decide) qs188 qw188_54 (by decide) ?_
      refine q_iload_n dX12_again_27 rfl rfl ?_
      refine qx_iald (v := (mem 224 v)) dX12_again_28 qs224 (o1 p1) (q_up_c (by decide)) ?_
      refine q_aload_n dX12_again_29 rfl rfl ?_
      refine qx_getI (ci := 12) (k := 51) (v := (mem 188 51)) dX12_again_30 rfl rfl rfl tw1234 rfl qs188 (q_up_i (by decide)) ?_
      refine qx_icmp_eq (tgt := 38) dX12_again_33 (by decide) (fun c3 => ?_) (fun c3 => ?_)
      · skip
        refine qx_sipush dX12_again_38 rfl rfl ?_
        refine q_iload_n dX12_again_41 rfl rfl ?_
        refine qx_imul dX12_again_42 (o3 p1 c2 c3) ?_
        refine qx_istore_n (L' := [(2, 188), (0, v), (0, (615 * v)), (4, 0)]) dX12_again_43 rfl rfl rfl rfl ?_
        refine q_aload_n dX12_again_44 rfl rfl ?_
        refine q_aload_n dX12_again_45 rfl rfl ?_
        refine q_getR (ci := 12) (k := 52) dX12_again_46 rfl (by decide) rfl tw1235 (by decide) qs188 qw188_52 (by decide) ?_
        refine q_iload_n dX12_again_49 rfl rfl ?_
        refine qx_invV (ci := 12) [(2, 222), (0, (615 * v))] [(0, (615 * v)), (2, 222), (2, 188)] rfl qM_X12_bring dX12_again_50 tw1521 rfl qs188 rfl rfl rfl rfl (l4 p1 c2 c3) (fun r4 m4 p4 q4 => ?_)
        refine qx_iincW (L' := [(2, 188), (0, v), (0, ((615 * v) + 597)), (4, 0)]) dX12_again_53 rfl rfl rfl (o5 p1 c2 c3 r4 m4 p4 q4) rfl ?_
        refine qx_iconst dX12_again_59 rfl rfl ?_
        refine qx_istore_n (L' := [(2, 188), (0, v), (0, ((615 * v) + 597)), (0, 0)]) dX12_again_60 rfl rfl rfl rfl ?_
        exact l6 p1 c2 c3 r4 m4 p4 q4
      · skip
        refine qx_iconst dX12_again_36 rfl rfl ?_
        exact q_zret dX12_again_37 (by decide) (qK_i (l7 p1 c2 c3))
  · rw [p1e, p1f]
    refine qx_if_eq (tgt := 36) dX12_again_11 (by decide) (fun _ => ?_) (fun z => absurd z (by decide))
    refine qx_iconst dX12_again_36 rfl rfl ?_
    exact q_zret dX12_again_37 (by decide) (qK_i (l8 p1))
theorem bkX12_again_61 {b : Int} {mem : qm} {Q : Int → qm → Prop}
    {v v2 v3 : Int}
    (l1 : (mem 188 0) ≤ v3 → Q 1 (q_up mem 188 30 0))
    (o2 : v3 < (mem 188 0) → q_in32 (2 * v3) ∧ q_in32 (v2 + (2 * v3)) ∧ (0 ≤ (v2 + (2 * v3)) ∧ (v2 + (2 * v3)) < 1230) ∧ (0 ≤ v3 ∧ v3 < 9) ∧ q_in32 ((v2 + (2 * v3)) + 1) ∧ (0 ≤ ((v2 + (2 * v3)) + 1) ∧ ((v2 + (2 * v3)) + 1) < 1230) ∧ q_in32 (v3 + 1))
    (l3 : v3 < (mem 188 0) → q_At yX12_again cX12_again 4 (some .boolean) 2 0 0 (qK (q_rb b) Q) 61 [(2, 188), (0, v), (0, v2), (0, (v3 + 1))] [] (q_sh0, q_rb b, (q_up (q_up mem 191 v3 (mem 222 (v2 + (2 * v3)))) 194 v3 (mem 222 ((v2 + (2 * v3)) + 1))))) :
    q_At yX12_again cX12_again 4 (some .boolean) 2 0 0 (qK (q_rb b) Q) 61 [(2, 188), (0, v), (0, v2), (0, v3)] [] (q_sh0, q_rb b, mem) := by
  refine q_iload_n dX12_again_61 rfl rfl ?_
  refine q_aload_n dX12_again_62 rfl rfl ?_
  refine qx_getI (ci := 12) (k := 0) (v := (mem 188 0)) dX12_again_63 rfl rfl rfl tw1183 rfl qs188 rfl ?_
  refine qx_icmp_ge (tgt := 109) dX12_again_66 (by decide) (fun c1 => ?_) (fun c1 => ?_)
  · skip
    refine q_aload_n dX12_again_109 rfl rfl ?_
    refine qx_iconst dX12_again_110 rfl rfl ?_
    refine q_putI (ci := 12) (k := 30) (kI := 30) (ty := .int) dX12_again_111 rfl (by decide) rfl tw1213 rfl rfl rfl (fun _ => ⟨rfl, rfl⟩) qs188 ?_
    refine qx_iconst dX12_again_114 rfl rfl ?_
    exact q_zret dX12_again_115 (by decide) (qK_i (l1 c1))
  · skip
    refine q_aload_n dX12_again_69 rfl rfl ?_
    refine q_getR (ci := 12) (k := 3) dX12_again_70 rfl (by decide) rfl tw1186 (by decide) qs188 qw188_3 (by decide) ?_
    refine q_iload_n dX12_again_73 rfl rfl ?_
    refine q_aload_n dX12_again_74 rfl rfl ?_
    refine q_getR (ci := 12) (k := 52) dX12_again_75 rfl (by decide) rfl tw1235 (by decide) qs188 qw188_52 (by decide) ?_
    refine q_iload_n dX12_again_78 rfl rfl ?_
    refine qx_iconst dX12_again_79 rfl rfl ?_
    refine q_iload_n dX12_again_80 rfl rfl ?_
    refine qx_imul dX12_again_81 (o2 c1).1 ?_
    refine qx_iadd dX12_again_82 (o2 c1).2.1 ?_
    refine qx_iald (v := (mem 222 (v2 + (2 * v3)))) dX12_again_83 qs222 (o2 c1).2.2.1 rfl ?_
    refine q_iast dX12_again_84 qs191 ((o2 c1).2.2.2.1).1 ((o2 c1).2.2.2.1).2 ?_
    refine q_aload_n dX12_again_85 rfl rfl ?_
    refine q_getR (ci := 12) (k := 6) dX12_again_86 rfl (by decide) rfl tw1189 (by decide) qs188 qw188_6 (by decide) ?_
    refine q_iload_n dX12_again_89 rfl rfl ?_
    refine q_aload_n dX12_again_90 rfl rfl ?_
    refine q_getR (ci := 12) (k := 52) dX12_again_91 rfl (by decide) rfl tw1235 (by decide) qs188 qw188_52 (by decide) ?_
    refine q_iload_n dX12_again_94 rfl rfl ?_
    refine qx_iconst dX12_again_95 rfl rfl ?_
    refine q_iload_n dX12_again_96 rfl rfl ?_
    refine qx_imul dX12_again_97 (o2 c1).1 ?_
    refine qx_iadd dX12_again_98 (o2 c1).2.1 ?_
    refine qx_iconst dX12_again_99 rfl rfl ?_
    refine qx_iadd dX12_again_100 (o2 c1).2.2.2.2.1 ?_
    refine qx_iald (v := (mem 222 ((v2 + (2 * v3)) + 1))) dX12_again_101 qs222 (o2 c1).2.2.2.2.2.1 (q_up_c (by decide)) ?_
    refine q_iast dX12_again_102 qs194 ((o2 c1).2.2.2.1).1 ((o2 c1).2.2.2.1).2 ?_
    refine qx_iinc (L' := [(2, 188), (0, v), (0, v2), (0, (v3 + 1))]) dX12_again_103 rfl rfl rfl (o2 c1).2.2.2.2.2.2 rfl ?_
    refine q_goto (tgt := 61) dX12_again_106 (by decide) ?_
    exact l3 c1
theorem dX12_count_0 : decode cX12_count 0 = .ok (.aload_n 0, 1) := by decide +kernel
theorem dX12_count_1 : decode cX12_count 1 = .ok (.iconst 0, 1) := by decide +kernel
theorem dX12_count_2 : decode cX12_count 2 = .ok (.putfield 128, 3) := by decide +kernel
theorem dX12_count_5 : decode cX12_count 5 = .ok (.iload_n 1, 1) := by decide +kernel
theorem dX12_count_6 : decode cX12_count 6 = .ok (.tableswitch 99 0 8 #[50, 55, 60, 65, 74, 79, 84, 89, 94], 50) := by decide +kernel
theorem dX12_count_56 : decode cX12_count 56 = .ok (.aload_n 0, 1) := by decide +kernel
theorem dX12_count_57 : decode cX12_count 57 = .ok (.getfield 134, 3) := by decide +kernel
theorem dX12_count_60 : decode cX12_count 60 = .ok (.ireturn, 1) := by decide +kernel
theorem dX12_count_61 : decode cX12_count 61 = .ok (.aload_n 0, 1) := by decide +kernel
theorem dX12_count_62 : decode cX12_count 62 = .ok (.getfield 216, 3) := by decide +kernel
theorem dX12_count_65 : decode cX12_count 65 = .ok (.ireturn, 1) := by decide +kernel
theorem dX12_count_66 : decode cX12_count 66 = .ok (.aload_n 0, 1) := by decide +kernel
theorem dX12_count_67 : decode cX12_count 67 = .ok (.getfield 247, 3) := by decide +kernel
theorem dX12_count_70 : decode cX12_count 70 = .ok (.ireturn, 1) := by decide +kernel
theorem dX12_count_71 : decode cX12_count 71 = .ok (.aload_n 0, 1) := by decide +kernel
theorem dX12_count_72 : decode cX12_count 72 = .ok (.aload_n 0, 1) := by decide +kernel
theorem dX12_count_73 : decode cX12_count 73 = .ok (.getfield 13, 3) := by decide +kernel
theorem dX12_count_76 : decode cX12_count 76 = .ok (.invokevirtual 279, 3) := by decide +kernel
theorem dX12_count_79 : decode cX12_count 79 = .ok (.ireturn, 1) := by decide +kernel
theorem dX12_count_80 : decode cX12_count 80 = .ok (.aload_n 0, 1) := by decide +kernel
theorem dX12_count_81 : decode cX12_count 81 = .ok (.getfield 197, 3) := by decide +kernel
theorem dX12_count_84 : decode cX12_count 84 = .ok (.ireturn, 1) := by decide +kernel
theorem dX12_count_85 : decode cX12_count 85 = .ok (.aload_n 0, 1) := by decide +kernel
theorem dX12_count_86 : decode cX12_count 86 = .ok (.getfield 372, 3) := by decide +kernel
theorem dX12_count_89 : decode cX12_count 89 = .ok (.ireturn, 1) := by decide +kernel
theorem dX12_count_90 : decode cX12_count 90 = .ok (.aload_n 0, 1) := by decide +kernel
theorem dX12_count_91 : decode cX12_count 91 = .ok (.getfield 131, 3) := by decide +kernel
theorem dX12_count_94 : decode cX12_count 94 = .ok (.ireturn, 1) := by decide +kernel
theorem dX12_count_95 : decode cX12_count 95 = .ok (.aload_n 0, 1) := by decide +kernel
theorem dX12_count_96 : decode cX12_count 96 = .ok (.getfield 145, 3) := by decide +kernel
theorem dX12_count_99 : decode cX12_count 99 = .ok (.ireturn, 1) := by decide +kernel
theorem dX12_count_100 : decode cX12_count 100 = .ok (.aload_n 0, 1) := by decide +kernel
theorem dX12_count_101 : decode cX12_count 101 = .ok (.invokevirtual 286, 3) := by decide +kernel
theorem dX12_count_104 : decode cX12_count 104 = .ok (.ireturn, 1) := by decide +kernel
theorem dX12_count_105 : decode cX12_count 105 = .ok (.iconst (-1), 1) := by decide +kernel
theorem dX12_count_106 : decode cX12_count 106 = .ok (.ireturn, 1) := by decide +kernel
theorem bkX12_count_0 {b : Int} {mem : qm} {Q : Int → qm → Prop}
    {v : Int}
    (l1 : v = 0 → Q (mem 188 0) (q_up mem 188 17 0))
    (l2 : v ≠ 0 → v = 1 → Q (mem 188 10) (q_up mem 188 17 0))
    (l3 : v ≠ 0 → v ≠ 1 → v = 2 → Q (mem 188 11) (q_up mem 188 17 0))
    {P5 : Int → qm → Prop}
    (l4 : v ≠ 0 → v ≠ 1 → v ≠ 2 → v = 3 → q_Ev yX12_sumOf cX12_sumOf 4 (some .int) 1 0 0 [(2, 188), (2, 190)] (q_sh0, q_rb b, (q_up mem 188 17 0)) (qK (q_rb b) (P5)))
    (l5 : v ≠ 0 → v ≠ 1 → v ≠ 2 → v = 3 → ∀ (r5 : Int), ∀ (m5 : qm), P5 r5 m5 → q_in32 r5 → Q r5 m5)
    (l6 : v ≠ 0 → v ≠ 1 → v ≠ 2 → v ≠ 3 → v = 4 → Q (mem 188 30) (q_up mem 188 17 0))
    (l7 : v ≠ 0 → v ≠ 1 → v ≠ 2 → v ≠ 3 → v ≠ 4 → v = 5 → Q (mem 188 49) (q_up mem 188 17 0))
    (l8 : v ≠ 0 → v ≠ 1 → v ≠ 2 → v ≠ 3 → v ≠ 4 → v ≠ 5 → v = 6 → Q (mem 188 16) (q_up mem 188 17 0))
    (l9 : v ≠ 0 → v ≠ 1 → v ≠ 2 → v ≠ 3 → v ≠ 4 → v ≠ 5 → v ≠ 6 → v = 7 → Q (mem 188 14) (q_up mem 188 17 0))
    {P11 : Int → qm → Prop}
    (l10 : v ≠ 0 → v ≠ 1 → v ≠ 2 → v ≠ 3 → v ≠ 4 → v ≠ 5 → v ≠ 6 → v ≠ 7 → v = 8 → q_Ev yX12_allDebts cX12_allDebts 6 (some .int) 1 0 0 [(2, 188)] (q_sh0, q_rb b, (q_up mem 188 17 0)) (qK (q_rb b) (P11)))
    (l11 : v ≠ 0 → v ≠ 1 → v ≠ 2 → v ≠ 3 → v ≠ 4 → v ≠ 5 → v ≠ 6 → v ≠ 7 → v = 8 → ∀ (r11 : Int), ∀ (m11 : qm), P11 r11 m11 → q_in32 r11 → Q r11 m11)
    (l12 : v ≠ 0 → v ≠ 1 → v ≠ 2 → v ≠ 3 → v ≠ 4 → v ≠ 5 → v ≠ 6 → v ≠ 7 → v ≠ 8 → Q (-1) (q_up mem 188 17 0)) :
    q_At yX12_count cX12_count 2 (some .int) 2 0 0 (qK (q_rb b) Q) 0 [(2, 188), (0, v)] [] (q_sh0, q_rb b, mem) := by
  refine q_aload_n dX12_count_0 rfl rfl ?_
  refine qx_iconst dX12_count_1 rfl rfl ?_
  refine q_putI (ci := 12) (k := 17) (kI := 17) (ty := .int) dX12_count_2 rfl (by decide) rfl tw1200 rfl rfl rfl (fun _ => ⟨rfl, rfl⟩) qs188 ?_
  refine q_iload_n dX12_count_5 rfl rfl ?_
  by_cases c1 : v = 0
  · skip
    refine q_tabIn (off := 50) (tgt := 56) dX12_count_6 (by omega) (by omega) (by rw [c1]; rfl) (by decide) ?_
    refine q_aload_n dX12_count_56 rfl rfl ?_
    refine qx_getI (ci := 12) (k := 0) (v := (mem 188 0)) dX12_count_57 rfl rfl rfl tw1183 rfl qs188 (q_up_i (by decide)) ?_
    exact q_iret dX12_count_60 (qK_i (l1 c1))
  by_cases c2 : v = 1
  · skip
    refine q_tabIn (off := 55) (tgt := 61) dX12_count_6 (by omega) (by omega) (by rw [c2]; rfl) (by decide) ?_
    refine q_aload_n dX12_count_61 rfl rfl ?_
    refine qx_getI (ci := 12) (k := 10) (v := (mem 188 10)) dX12_count_62 rfl rfl rfl tw1193 rfl qs188 (q_up_i (by decide)) ?_
    exact q_iret dX12_count_65 (qK_i (l2 c1 c2))
  by_cases c3 : v = 2
  · skip
    refine q_tabIn (off := 60) (tgt := 66) dX12_count_6 (by omega) (by omega) (by rw [c3]; rfl) (by decide) ?_
    refine q_aload_n dX12_count_66 rfl rfl ?_
    refine qx_getI (ci := 12) (k := 11) (v := (mem 188 11)) dX12_count_67 rfl rfl rfl tw1194 rfl qs188 (q_up_i (by decide)) ?_
    exact q_iret dX12_count_70 (qK_i (l3 c1 c2 c3))
  by_cases c4 : v = 3
  · skip
    refine q_tabIn (off := 65) (tgt := 71) dX12_count_6 (by omega) (by omega) (by rw [c4]; rfl) (by decide) ?_
    refine q_aload_n dX12_count_71 rfl rfl ?_
    refine q_aload_n dX12_count_72 rfl rfl ?_
    refine q_getR (ci := 12) (k := 2) dX12_count_73 rfl (by decide) rfl tw1185 (by decide) qs188 qw188_2 (by decide) ?_
    refine qx_invV (ci := 12) [(2, 190)] [(2, 190), (2, 188)] rfl qM_X12_sumOf dX12_count_76 tw1513 rfl qs188 rfl rfl rfl rfl (l4 c1 c2 c3 c4) (fun r5 m5 p5 q5 => ?_)
    exact q_iret dX12_count_79 (qK_i (l5 c1 c2 c3 c4 r5 m5 p5 q5))
  by_cases c6 : v = 4
  · skip
    refine q_tabIn (off := 74) (tgt := 80) dX12_count_6 (by omega) (by omega) (by rw [c6]; rfl) (by decide) ?_
    refine q_aload_n dX12_count_80 rfl rfl ?_
    refine qx_getI (ci := 12) (k := 30) (v := (mem 188 30)) dX12_count_81 rfl rfl rfl tw1213 rfl qs188 (q_up_i (by decide)) ?_
    exact q_iret dX12_count_84 (qK_i (l6 c1 c2 c3 c4 c6))
  by_cases c7 : v = 5
  · skip
    refine q_tabIn (off := 79) (tgt := 85) dX12_count_6 (by omega) (by omega) (by rw [c7]; rfl) (by decide) ?_
    refine q_aload_n dX12_count_85 rfl rfl ?_
    refine qx_getI (ci := 12) (k := 49) (v := (mem 188 49)) dX12_count_86 rfl rfl rfl tw1232 rfl qs188 (q_up_i (by decide)) ?_
    exact q_iret dX12_count_89 (qK_i (l7 c1 c2 c3 c4 c6 c7))
  by_cases c8 : v = 6
  · skip
    refine q_tabIn (off := 84) (tgt := 90) dX12_count_6 (by omega) (by omega) (by rw [c8]; rfl) (by decide) ?_
    refine q_aload_n dX12_count_90 rfl rfl ?_
    refine qx_getI (ci := 12) (k := 16) (v := (mem 188 16)) dX12_count_91 rfl rfl rfl tw1199 rfl qs188 (q_up_i (by decide)) ?_
    exact q_iret dX12_count_94 (qK_i (l8 c1 c2 c3 c4 c6 c7 c8))
  by_cases c9 : v = 7
  · skip
    refine q_tabIn (off := 89) (tgt := 95) dX12_count_6 (by omega) (by omega) (by rw [c9]; rfl) (by decide) ?_
    refine q_aload_n dX12_count_95 rfl rfl ?_
    refine qx_getI (ci := 12) (k := 14) (v := (mem 188 14)) dX12_count_96 rfl rfl rfl tw1197 rfl qs188 (q_up_i (by decide)) ?_
    exact q_iret dX12_count_99 (qK_i (l9 c1 c2 c3 c4 c6 c7 c8 c9))
  by_cases c10 : v = 8
  · skip
    refine q_tabIn (off := 94) (tgt := 100) dX12_count_6 (by omega) (by omega) (by rw [c10]; rfl) (by decide) ?_
    refine q_aload_n dX12_count_100 rfl rfl ?_
    refine qx_invV (ci := 12) [] [(2, 188)] rfl qM_X12_allDebts dX12_count_101 tw1529 rfl qs188 rfl rfl rfl rfl (l10 c1 c2 c3 c4 c6 c7 c8 c9 c10) (fun r11 m11 p11 q11 => ?_)
    exact q_iret dX12_count_104 (qK_i (l11 c1 c2 c3 c4 c6 c7 c8 c9 c10 r11 m11 p11 q11))
  refine q_tabOut (tgt := 105) dX12_count_6 (by omega) (by decide) ?_
  refine qx_iconst dX12_count_105 rfl rfl ?_
  exact q_iret dX12_count_106 (qK_i (l12 c1 c2 c3 c4 c6 c7 c8 c9 c10))
theorem dX12_setOff_0 : decode cX12_setOff 0 = .ok (.aload_n 0, 1) := by decide +kernel
theorem dX12_setOff_1 : decode cX12_setOff 1 = .ok (.getfield 34, 3) := by decide +kernel
theorem dX12_setOff_4 : decode cX12_setOff 4 = .ok (.bipush 6, 2) := by decide +kernel
theorem dX12_setOff_6 : decode cX12_setOff 6 = .ok (.iload_n 1, 1) := by decide +kernel
theorem dX12_setOff_7 : decode cX12_setOff 7 = .ok (.imul, 1) := by decide +kernel
theorem dX12_setOff_8 : decode cX12_setOff 8 = .ok (.iload_n 2, 1) := by decide +kernel
theorem dX12_setOff_9 : decode cX12_setOff 9 = .ok (.iadd, 1) := by decide +kernel
theorem dX12_setOff_10 : decode cX12_setOff 10 = .ok (.iaload, 1) := by decide +kernel
theorem dX12_setOff_11 : decode cX12_setOff 11 = .ok (.aload_n 0, 1) := by decide +kernel
theorem dX12_setOff_12 : decode cX12_setOff 12 = .ok (.getfield 34, 3) := by decide +kernel
theorem dX12_setOff_15 : decode cX12_setOff 15 = .ok (.bipush 6, 2) := by decide +kernel
theorem dX12_setOff_17 : decode cX12_setOff 17 = .ok (.iload_n 2, 1) := by decide +kernel
theorem dX12_setOff_18 : decode cX12_setOff 18 = .ok (.imul, 1) := by decide +kernel
theorem dX12_setOff_19 : decode cX12_setOff 19 = .ok (.iload_n 1, 1) := by decide +kernel
theorem dX12_setOff_20 : decode cX12_setOff 20 = .ok (.iadd, 1) := by decide +kernel
theorem dX12_setOff_21 : decode cX12_setOff 21 = .ok (.iaload, 1) := by decide +kernel
theorem dX12_setOff_22 : decode cX12_setOff 22 = .ok (.invokestatic 234, 3) := by decide +kernel
theorem dX12_setOff_25 : decode cX12_setOff 25 = .ok (.istore_n 3, 1) := by decide +kernel
theorem dX12_setOff_26 : decode cX12_setOff 26 = .ok (.aload_n 0, 1) := by decide +kernel
theorem dX12_setOff_27 : decode cX12_setOff 27 = .ok (.getfield 34, 3) := by decide +kernel
theorem dX12_setOff_30 : decode cX12_setOff 30 = .ok (.bipush 6, 2) := by decide +kernel
theorem dX12_setOff_32 : decode cX12_setOff 32 = .ok (.iload_n 1, 1) := by decide +kernel
theorem dX12_setOff_33 : decode cX12_setOff 33 = .ok (.imul, 1) := by decide +kernel
theorem dX12_setOff_34 : decode cX12_setOff 34 = .ok (.iload_n 2, 1) := by decide +kernel
theorem dX12_setOff_35 : decode cX12_setOff 35 = .ok (.iadd, 1) := by decide +kernel
theorem dX12_setOff_36 : decode cX12_setOff 36 = .ok (.dup2, 1) := by decide +kernel
theorem dX12_setOff_37 : decode cX12_setOff 37 = .ok (.iaload, 1) := by decide +kernel
theorem dX12_setOff_38 : decode cX12_setOff 38 = .ok (.iload_n 3, 1) := by decide +kernel
theorem dX12_setOff_39 : decode cX12_setOff 39 = .ok (.isub, 1) := by decide +kernel
theorem dX12_setOff_40 : decode cX12_setOff 40 = .ok (.iastore, 1) := by decide +kernel
theorem dX12_setOff_41 : decode cX12_setOff 41 = .ok (.aload_n 0, 1) := by decide +kernel
theorem dX12_setOff_42 : decode cX12_setOff 42 = .ok (.getfield 34, 3) := by decide +kernel
theorem dX12_setOff_45 : decode cX12_setOff 45 = .ok (.bipush 6, 2) := by decide +kernel
theorem dX12_setOff_47 : decode cX12_setOff 47 = .ok (.iload_n 2, 1) := by decide +kernel
theorem dX12_setOff_48 : decode cX12_setOff 48 = .ok (.imul, 1) := by decide +kernel
theorem dX12_setOff_49 : decode cX12_setOff 49 = .ok (.iload_n 1, 1) := by decide +kernel
theorem dX12_setOff_50 : decode cX12_setOff 50 = .ok (.iadd, 1) := by decide +kernel
theorem dX12_setOff_51 : decode cX12_setOff 51 = .ok (.dup2, 1) := by decide +kernel
theorem dX12_setOff_52 : decode cX12_setOff 52 = .ok (.iaload, 1) := by decide +kernel
theorem dX12_setOff_53 : decode cX12_setOff 53 = .ok (.iload_n 3, 1) := by decide +kernel
theorem dX12_setOff_54 : decode cX12_setOff 54 = .ok (.isub, 1) := by decide +kernel
theorem dX12_setOff_55 : decode cX12_setOff 55 = .ok (.iastore, 1) := by decide +kernel
theorem dX12_setOff_56 : decode cX12_setOff 56 = .ok (.return_, 1) := by decide +kernel
theorem bkX12_setOff_0 {b : Int} {mem : qm} {Q : Int → qm → Prop}
    {x y : Int}
    (o1 : q_in32 (6 * x) ∧ q_in32 ((6 * x) + y) ∧ (0 ≤ ((6 * x) + y) ∧ ((6 * x) + y) < 36) ∧ q_in32 (6 * y) ∧ q_in32 ((6 * y) + x) ∧ (0 ≤ ((6 * y) + x) ∧ ((6 * y) + x) < 36) ∧ q_in32 ((mem 197 ((6 * x) + y)) - (min (mem 197 ((6 * x) + y)) (mem 197 ((6 * y) + x)))) ∧ q_in32 (((q_up mem 197 ((6 * x) + y) ((mem 197 ((6 * x) + y)) - (min (mem 197 ((6 * x) + y)) (mem 197 ((6 * y) + x))))) 197 ((6 * y) + x)) - (min (mem 197 ((6 * x) + y)) (mem 197 ((6 * y) + x)))))
    (l2 : Q 0 (q_up (q_up mem 197 ((6 * x) + y) ((mem 197 ((6 * x) + y)) - (min (mem 197 ((6 * x) + y)) (mem 197 ((6 * y) + x))))) 197 ((6 * y) + x) (((q_up mem 197 ((6 * x) + y) ((mem 197 ((6 * x) + y)) - (min (mem 197 ((6 * x) + y)) (mem 197 ((6 * y) + x))))) 197 ((6 * y) + x)) - (min (mem 197 ((6 * x) + y)) (mem 197 ((6 * y) + x)))))) :
    q_At yX12_setOff cX12_setOff 4 none 1 0 0 (qK (q_rb b) Q) 0 [(2, 188), (0, x), (0, y), (4, 0)] [] (q_sh0, q_rb b, mem) := by
  refine q_aload_n dX12_setOff_0 rfl rfl ?_
  refine q_getR (ci := 12) (k := 9) dX12_setOff_1 rfl (by decide) rfl tw1192 (by decide) qs188 qw188_9 (by decide) ?_
  refine qx_bipush dX12_setOff_4 rfl rfl ?_
  refine q_iload_n dX12_setOff_6 rfl rfl ?_
  refine qx_imul dX12_setOff_7 (o1).1 ?_
  refine q_iload_n dX12_setOff_8 rfl rfl ?_
  refine qx_iadd dX12_setOff_9 (o1).2.1 ?_
  refine qx_iald (v := (mem 197 ((6 * x) + y))) dX12_setOff_10 qs197 (o1).2.2.1 rfl ?_
  refine q_aload_n dX12_setOff_11 rfl rfl ?_
  refine q_getR (ci := 12) (k := 9) dX12_setOff_12 rfl (by decide) rfl tw1192 (by decide) qs188 qw188_9 (by decide) ?_
  refine qx_bipush dX12_setOff_15 rfl rfl ?_
  refine q_iload_n dX12_setOff_17 rfl rfl ?_
  refine qx_imul dX12_setOff_18 (o1).2.2.2.1 ?_
  refine q_iload_n dX12_setOff_19 rfl rfl ?_
  refine qx_iadd dX12_setOff_20 (o1).2.2.2.2.1 ?_
  refine qx_iald (v := (mem 197 ((6 * y) + x))) dX12_setOff_21 qs197 (o1).2.2.2.2.2.1 rfl ?_
  refine q_min dX12_setOff_22 tw1457 tw429 tw15 tw430 (by decide) (Nat.le_of_ble_eq_true rfl) ?_
  refine qx_istore_n (L' := [(2, 188), (0, x), (0, y), (0, (min (mem 197 ((6 * x) + y)) (mem 197 ((6 * y) + x))))]) dX12_setOff_25 rfl rfl rfl rfl ?_
  refine q_aload_n dX12_setOff_26 rfl rfl ?_
  refine q_getR (ci := 12) (k := 9) dX12_setOff_27 rfl (by decide) rfl tw1192 (by decide) qs188 qw188_9 (by decide) ?_
  refine qx_bipush dX12_setOff_30 rfl rfl ?_
  refine q_iload_n dX12_setOff_32 rfl rfl ?_
  refine qx_imul dX12_setOff_33 (o1).1 ?_
  refine q_iload_n dX12_setOff_34 rfl rfl ?_
  refine qx_iadd dX12_setOff_35 (o1).2.1 ?_
  refine q_dup2 dX12_setOff_36 (fun h => by cases h) (fun h => by cases h) ?_
  refine qx_iald (v := (mem 197 ((6 * x) + y))) dX12_setOff_37 qs197 (o1).2.2.1 rfl ?_
  refine q_iload_n dX12_setOff_38 rfl rfl ?_
  refine qx_isub dX12_setOff_39 (o1).2.2.2.2.2.2.1 ?_
  refine q_iast dX12_setOff_40 qs197 ((o1).2.2.1).1 ((o1).2.2.1).2 ?_
  refine q_aload_n dX12_setOff_41 rfl rfl ?_
  refine q_getR (ci := 12) (k := 9) dX12_setOff_42 rfl (by decide) rfl tw1192 (by decide) qs188 qw188_9 (by decide) ?_
  refine qx_bipush dX12_setOff_45 rfl rfl ?_
  refine q_iload_n dX12_setOff_47 rfl rfl ?_
  refine qx_imul dX12_setOff_48 (o1).2.2.2.1 ?_
  refine q_iload_n dX12_setOff_49 rfl rfl ?_
  refine qx_iadd dX12_setOff_50 (o1).2.2.2.2.1 ?_
  refine q_dup2 dX12_setOff_51 (fun h => by cases h) (fun h => by cases h) ?_
  refine qx_iald (v := ((q_up mem 197 ((6 * x) + y) ((mem 197 ((6 * x) + y)) - (min (mem 197 ((6 * x) + y)) (mem 197 ((6 * y) + x))))) 197 ((6 * y) + x))) dX12_setOff_52 qs197 (o1).2.2.2.2.2.1 rfl ?_
  refine q_iload_n dX12_setOff_53 rfl rfl ?_
  refine qx_isub dX12_setOff_54 (o1).2.2.2.2.2.2.2 ?_
  refine q_iast dX12_setOff_55 qs197 ((o1).2.2.2.2.2.1).1 ((o1).2.2.2.2.2.1).2 ?_
  exact q_vret dX12_setOff_56 (qK_i (l2))
theorem dX12_settleOne_0 : decode cX12_settleOne 0 = .ok (.iconst 0, 1) := by decide +kernel
theorem dX12_settleOne_1 : decode cX12_settleOne 1 = .ok (.istore_n 1, 1) := by decide +kernel
theorem dX12_settleOne_2 : decode cX12_settleOne 2 = .ok (.iload_n 1, 1) := by decide +kernel
theorem dX12_settleOne_3 : decode cX12_settleOne 3 = .ok (.bipush 6, 2) := by decide +kernel
theorem dX12_settleOne_5 : decode cX12_settleOne 5 = .ok (.if_icmp .ge 161, 3) := by decide +kernel
theorem dX12_settleOne_8 : decode cX12_settleOne 8 = .ok (.iconst 0, 1) := by decide +kernel
theorem dX12_settleOne_9 : decode cX12_settleOne 9 = .ok (.istore_n 2, 1) := by decide +kernel
theorem dX12_settleOne_10 : decode cX12_settleOne 10 = .ok (.iload_n 2, 1) := by decide +kernel
theorem dX12_settleOne_11 : decode cX12_settleOne 11 = .ok (.bipush 6, 2) := by decide +kernel
theorem dX12_settleOne_13 : decode cX12_settleOne 13 = .ok (.if_icmp .ge 147, 3) := by decide +kernel
theorem dX12_settleOne_16 : decode cX12_settleOne 16 = .ok (.iconst 0, 1) := by decide +kernel
theorem dX12_settleOne_17 : decode cX12_settleOne 17 = .ok (.istore_n 3, 1) := by decide +kernel
theorem dX12_settleOne_18 : decode cX12_settleOne 18 = .ok (.iload_n 3, 1) := by decide +kernel
theorem dX12_settleOne_19 : decode cX12_settleOne 19 = .ok (.bipush 6, 2) := by decide +kernel
theorem dX12_settleOne_21 : decode cX12_settleOne 21 = .ok (.if_icmp .ge 133, 3) := by decide +kernel
theorem dX12_settleOne_24 : decode cX12_settleOne 24 = .ok (.iload_n 1, 1) := by decide +kernel
theorem dX12_settleOne_25 : decode cX12_settleOne 25 = .ok (.iload_n 2, 1) := by decide +kernel
theorem dX12_settleOne_26 : decode cX12_settleOne 26 = .ok (.if_icmp .eq 122, 3) := by decide +kernel
theorem dX12_settleOne_29 : decode cX12_settleOne 29 = .ok (.iload_n 2, 1) := by decide +kernel
theorem dX12_settleOne_30 : decode cX12_settleOne 30 = .ok (.iload_n 3, 1) := by decide +kernel
theorem dX12_settleOne_31 : decode cX12_settleOne 31 = .ok (.if_icmp .eq 117, 3) := by decide +kernel
theorem dX12_settleOne_34 : decode cX12_settleOne 34 = .ok (.iload_n 1, 1) := by decide +kernel
theorem dX12_settleOne_35 : decode cX12_settleOne 35 = .ok (.iload_n 3, 1) := by decide +kernel
theorem dX12_settleOne_36 : decode cX12_settleOne 36 = .ok (.if_icmp .ne 6, 3) := by decide +kernel
theorem dX12_settleOne_39 : decode cX12_settleOne 39 = .ok (.goto 109, 3) := by decide +kernel
theorem dX12_settleOne_42 : decode cX12_settleOne 42 = .ok (.aload_n 0, 1) := by decide +kernel
theorem dX12_settleOne_43 : decode cX12_settleOne 43 = .ok (.getfield 34, 3) := by decide +kernel
theorem dX12_settleOne_46 : decode cX12_settleOne 46 = .ok (.bipush 6, 2) := by decide +kernel
theorem dX12_settleOne_48 : decode cX12_settleOne 48 = .ok (.iload_n 1, 1) := by decide +kernel
theorem dX12_settleOne_49 : decode cX12_settleOne 49 = .ok (.imul, 1) := by decide +kernel
theorem dX12_settleOne_50 : decode cX12_settleOne 50 = .ok (.iload_n 2, 1) := by decide +kernel
theorem dX12_settleOne_51 : decode cX12_settleOne 51 = .ok (.iadd, 1) := by decide +kernel
theorem dX12_settleOne_52 : decode cX12_settleOne 52 = .ok (.iaload, 1) := by decide +kernel
theorem dX12_settleOne_53 : decode cX12_settleOne 53 = .ok (.aload_n 0, 1) := by decide +kernel
theorem dX12_settleOne_54 : decode cX12_settleOne 54 = .ok (.getfield 34, 3) := by decide +kernel
theorem dX12_settleOne_57 : decode cX12_settleOne 57 = .ok (.bipush 6, 2) := by decide +kernel
theorem dX12_settleOne_59 : decode cX12_settleOne 59 = .ok (.iload_n 2, 1) := by decide +kernel
theorem dX12_settleOne_60 : decode cX12_settleOne 60 = .ok (.imul, 1) := by decide +kernel
theorem dX12_settleOne_61 : decode cX12_settleOne 61 = .ok (.iload_n 3, 1) := by decide +kernel
theorem dX12_settleOne_62 : decode cX12_settleOne 62 = .ok (.iadd, 1) := by decide +kernel
theorem dX12_settleOne_63 : decode cX12_settleOne 63 = .ok (.iaload, 1) := by decide +kernel
theorem dX12_settleOne_64 : decode cX12_settleOne 64 = .ok (.invokestatic 234, 3) := by decide +kernel
theorem dX12_settleOne_67 : decode cX12_settleOne 67 = .ok (.istore 4, 2) := by decide +kernel
theorem dX12_settleOne_69 : decode cX12_settleOne 69 = .ok (.iload 4, 2) := by decide +kernel
theorem dX12_settleOne_71 : decode cX12_settleOne 71 = .ok (.ifCond .ne 6, 3) := by decide +kernel
theorem dX12_settleOne_74 : decode cX12_settleOne 74 = .ok (.goto 74, 3) := by decide +kernel
theorem dX12_settleOne_77 : decode cX12_settleOne 77 = .ok (.aload_n 0, 1) := by decide +kernel
theorem dX12_settleOne_78 : decode cX12_settleOne 78 = .ok (.getfield 34, 3) := by decide +kernel
theorem dX12_settleOne_81 : decode cX12_settleOne 81 = .ok (.bipush 6, 2) := by decide +kernel
theorem dX12_settleOne_83 : decode cX12_settleOne 83 = .ok (.iload_n 1, 1) := by decide +kernel
theorem dX12_settleOne_84 : decode cX12_settleOne 84 = .ok (.imul, 1) := by decide +kernel
theorem dX12_settleOne_85 : decode cX12_settleOne 85 = .ok (.iload_n 2, 1) := by decide +kernel
theorem dX12_settleOne_86 : decode cX12_settleOne 86 = .ok (.iadd, 1) := by decide +kernel
theorem dX12_settleOne_87 : decode cX12_settleOne 87 = .ok (.dup2, 1) := by decide +kernel
theorem dX12_settleOne_88 : decode cX12_settleOne 88 = .ok (.iaload, 1) := by decide +kernel
theorem dX12_settleOne_89 : decode cX12_settleOne 89 = .ok (.iload 4, 2) := by decide +kernel
theorem dX12_settleOne_91 : decode cX12_settleOne 91 = .ok (.isub, 1) := by decide +kernel
theorem dX12_settleOne_92 : decode cX12_settleOne 92 = .ok (.iastore, 1) := by decide +kernel
theorem dX12_settleOne_93 : decode cX12_settleOne 93 = .ok (.aload_n 0, 1) := by decide +kernel
theorem dX12_settleOne_94 : decode cX12_settleOne 94 = .ok (.getfield 34, 3) := by decide +kernel
theorem dX12_settleOne_97 : decode cX12_settleOne 97 = .ok (.bipush 6, 2) := by decide +kernel
theorem dX12_settleOne_99 : decode cX12_settleOne 99 = .ok (.iload_n 2, 1) := by decide +kernel
theorem dX12_settleOne_100 : decode cX12_settleOne 100 = .ok (.imul, 1) := by decide +kernel
theorem dX12_settleOne_101 : decode cX12_settleOne 101 = .ok (.iload_n 3, 1) := by decide +kernel
theorem dX12_settleOne_102 : decode cX12_settleOne 102 = .ok (.iadd, 1) := by decide +kernel
theorem dX12_settleOne_103 : decode cX12_settleOne 103 = .ok (.dup2, 1) := by decide +kernel
theorem dX12_settleOne_104 : decode cX12_settleOne 104 = .ok (.iaload, 1) := by decide +kernel
theorem dX12_settleOne_105 : decode cX12_settleOne 105 = .ok (.iload 4, 2) := by decide +kernel
theorem dX12_settleOne_107 : decode cX12_settleOne 107 = .ok (.isub, 1) := by decide +kernel
theorem dX12_settleOne_108 : decode cX12_settleOne 108 = .ok (.iastore, 1) := by decide +kernel
theorem dX12_settleOne_109 : decode cX12_settleOne 109 = .ok (.aload_n 0, 1) := by decide +kernel
theorem dX12_settleOne_110 : decode cX12_settleOne 110 = .ok (.getfield 34, 3) := by decide +kernel
theorem dX12_settleOne_113 : decode cX12_settleOne 113 = .ok (.bipush 6, 2) := by decide +kernel
theorem dX12_settleOne_115 : decode cX12_settleOne 115 = .ok (.iload_n 1, 1) := by decide +kernel
theorem dX12_settleOne_116 : decode cX12_settleOne 116 = .ok (.imul, 1) := by decide +kernel
theorem dX12_settleOne_117 : decode cX12_settleOne 117 = .ok (.iload_n 3, 1) := by decide +kernel
theorem dX12_settleOne_118 : decode cX12_settleOne 118 = .ok (.iadd, 1) := by decide +kernel
theorem dX12_settleOne_119 : decode cX12_settleOne 119 = .ok (.sipush 999, 3) := by decide +kernel
theorem dX12_settleOne_122 : decode cX12_settleOne 122 = .ok (.aload_n 0, 1) := by decide +kernel
theorem dX12_settleOne_123 : decode cX12_settleOne 123 = .ok (.getfield 34, 3) := by decide +kernel
theorem dX12_settleOne_126 : decode cX12_settleOne 126 = .ok (.bipush 6, 2) := by decide +kernel
theorem dX12_settleOne_128 : decode cX12_settleOne 128 = .ok (.iload_n 1, 1) := by decide +kernel
theorem dX12_settleOne_129 : decode cX12_settleOne 129 = .ok (.imul, 1) := by decide +kernel
theorem dX12_settleOne_130 : decode cX12_settleOne 130 = .ok (.iload_n 3, 1) := by decide +kernel
theorem dX12_settleOne_131 : decode cX12_settleOne 131 = .ok (.iadd, 1) := by decide +kernel
theorem dX12_settleOne_132 : decode cX12_settleOne 132 = .ok (.iaload, 1) := by decide +kernel
theorem dX12_settleOne_133 : decode cX12_settleOne 133 = .ok (.iload 4, 2) := by decide +kernel
theorem dX12_settleOne_135 : decode cX12_settleOne 135 = .ok (.iadd, 1) := by decide +kernel
theorem dX12_settleOne_136 : decode cX12_settleOne 136 = .ok (.invokestatic 234, 3) := by decide +kernel
theorem dX12_settleOne_139 : decode cX12_settleOne 139 = .ok (.iastore, 1) := by decide +kernel
theorem dX12_settleOne_140 : decode cX12_settleOne 140 = .ok (.aload_n 0, 1) := by decide +kernel
theorem dX12_settleOne_141 : decode cX12_settleOne 141 = .ok (.iload_n 1, 1) := by decide +kernel
theorem dX12_settleOne_142 : decode cX12_settleOne 142 = .ok (.iload_n 3, 1) := by decide +kernel
theorem dX12_settleOne_143 : decode cX12_settleOne 143 = .ok (.invokevirtual 360, 3) := by decide +kernel
theorem dX12_settleOne_146 : decode cX12_settleOne 146 = .ok (.iconst 1, 1) := by decide +kernel
theorem dX12_settleOne_147 : decode cX12_settleOne 147 = .ok (.ireturn, 1) := by decide +kernel
theorem dX12_settleOne_148 : decode cX12_settleOne 148 = .ok (.iinc 3 1, 3) := by decide +kernel
theorem dX12_settleOne_151 : decode cX12_settleOne 151 = .ok (.goto (-133), 3) := by decide +kernel
theorem dX12_settleOne_154 : decode cX12_settleOne 154 = .ok (.iinc 2 1, 3) := by decide +kernel
theorem dX12_settleOne_157 : decode cX12_settleOne 157 = .ok (.goto (-147), 3) := by decide +kernel
theorem dX12_settleOne_160 : decode cX12_settleOne 160 = .ok (.iinc 1 1, 3) := by decide +kernel
theorem dX12_settleOne_163 : decode cX12_settleOne 163 = .ok (.goto (-161), 3) := by decide +kernel
theorem dX12_settleOne_166 : decode cX12_settleOne 166 = .ok (.iconst 0, 1) := by decide +kernel
theorem dX12_settleOne_167 : decode cX12_settleOne 167 = .ok (.ireturn, 1) := by decide +kernel
theorem bkX12_settleOne_0 {b : Int} {mem : qm} {Q : Int → qm → Prop}
    (l1 : q_At yX12_settleOne cX12_settleOne 5 (some .boolean) 2 0 0 (qK (q_rb b) Q) 2 [(2, 188), (0, 0), (4, 0), (4, 0), (4, 0)] [] (q_sh0, q_rb b, mem)) :
    q_At yX12_settleOne cX12_settleOne 5 (some .boolean) 2 0 0 (qK (q_rb b) Q) 0 [(2, 188), (4, 0), (4, 0), (4, 0), (4, 0)] [] (q_sh0, q_rb b, mem) := by
  refine qx_iconst dX12_settleOne_0 rfl rfl ?_
  refine qx_istore_n (L' := [(2, 188), (0, 0), (4, 0), (4, 0), (4, 0)]) dX12_settleOne_1 rfl rfl rfl rfl ?_
  exact l1
theorem bkX12_settleOne_2 {b : Int} {mem : qm} {Q : Int → qm → Prop}
    {v1 : Int}
    (l1 : 6 ≤ v1 → Q 0 mem)
    (l2 : v1 < 6 → q_At yX12_settleOne cX12_settleOne 5 (some .boolean) 2 0 0 (qK (q_rb b) Q) 10 [(2, 188), (0, v1), (0, 0), (4, 0), (4, 0)] [] (q_sh0, q_rb b, mem)) :
    q_At yX12_settleOne cX12_settleOne 5 (some .boolean) 2 0 0 (qK (q_rb b) Q) 2 [(2, 188), (0, v1), (4, 0), (4, 0), (4, 0)] [] (q_sh0, q_rb b, mem) := by
  refine q_iload_n dX12_settleOne_2 rfl rfl ?_
  refine qx_bipush dX12_settleOne_3 rfl rfl ?_
  refine qx_icmp_ge (tgt := 166) dX12_settleOne_5 (by decide) (fun c1 => ?_) (fun c1 => ?_)
  · skip
    refine qx_iconst dX12_settleOne_166 rfl rfl ?_
    exact q_zret dX12_settleOne_167 (by decide) (qK_i (l1 c1))
  · skip
    refine qx_iconst dX12_settleOne_8 rfl rfl ?_
    refine qx_istore_n (L' := [(2, 188), (0, v1), (0, 0), (4, 0), (4, 0)]) dX12_settleOne_9 rfl rfl rfl rfl ?_
    exact l2 c1
theorem bkX12_settleOne_10 {b : Int} {mem : qm} {Q : Int → qm → Prop}
    {v1 v2 : Int}
    (o1 : 6 ≤ v2 → q_in32 (v1 + 1))
    (l2 : 6 ≤ v2 → q_At yX12_settleOne cX12_settleOne 5 (some .boolean) 2 0 0 (qK (q_rb b) Q) 2 [(2, 188), (0, (v1 + 1)), (4, 0), (4, 0), (4, 0)] [] (q_sh0, q_rb b, mem))
    (l3 : v2 < 6 → q_At yX12_settleOne cX12_settleOne 5 (some .boolean) 2 0 0 (qK (q_rb b) Q) 18 [(2, 188), (0, v1), (0, v2), (0, 0), (4, 0)] [] (q_sh0, q_rb b, mem)) :
    q_At yX12_settleOne cX12_settleOne 5 (some .boolean) 2 0 0 (qK (q_rb b) Q) 10 [(2, 188), (0, v1), (0, v2), (4, 0), (4, 0)] [] (q_sh0, q_rb b, mem) := by
  refine q_iload_n dX12_settleOne_10 rfl rfl ?_
  refine qx_bipush dX12_settleOne_11 rfl rfl ?_
  refine qx_icmp_ge (tgt := 160) dX12_settleOne_13 (by decide) (fun c1 => ?_) (fun c1 => ?_)
  · skip
    refine qx_iinc (L' := [(2, 188), (0, (v1 + 1)), (0, v2), (4, 0), (4, 0)]) dX12_settleOne_160 rfl rfl rfl (o1 c1) rfl ?_
    refine q_goto (tgt := 2) dX12_settleOne_163 (by decide) ?_
    refine q_kill (L' := [(2, 188), (0, (v1 + 1)), (4, 0), (4, 0), (4, 0)]) 2 rfl ?_
    exact l2 c1
  · skip
    refine qx_iconst dX12_settleOne_16 rfl rfl ?_
    refine qx_istore_n (L' := [(2, 188), (0, v1), (0, v2), (0, 0), (4, 0)]) dX12_settleOne_17 rfl rfl rfl rfl ?_
    exact l3 c1
theorem bkX12_settleOne_18 {b : Int} {mem : qm} {Q : Int → qm → Prop}
    {v1 v2 v3 : Int}
    (o1 : 6 ≤ v3 → q_in32 (v2 + 1))
    (l2 : 6 ≤ v3 → q_At yX12_settleOne cX12_settleOne 5 (some .boolean) 2 0 0 (qK (q_rb b) Q) 10 [(2, 188), (0, v1), (0, (v2 + 1)), (4, 0), (4, 0)] [] (q_sh0, q_rb b, mem))
    (o3 : v3 < 6 → v1 = v2 → q_in32 (v3 + 1))
    (l4 : v3 < 6 → v1 = v2 → q_At yX12_settleOne cX12_settleOne 5 (some .boolean) 2 0 0 (qK (q_rb b) Q) 18 [(2, 188), (0, v1), (0, v2), (0, (v3 + 1)), (4, 0)] [] (q_sh0, q_rb b, mem))
    (o5 : v3 < 6 → v1 ≠ v2 → v2 = v3 → q_in32 (v3 + 1))
    (l6 : v3 < 6 → v1 ≠ v2 → v2 = v3 → q_At yX12_settleOne cX12_settleOne 5 (some .boolean) 2 0 0 (qK (q_rb b) Q) 18 [(2, 188), (0, v1), (0, v2), (0, (v3 + 1)), (4, 0)] [] (q_sh0, q_rb b, mem))
    (o7 : v3 < 6 → v1 ≠ v2 → v2 ≠ v3 → v1 ≠ v3 → q_in32 (6 * v1) ∧ q_in32 ((6 * v1) + v2) ∧ (0 ≤ ((6 * v1) + v2) ∧ ((6 * v1) + v2) < 36) ∧ q_in32 (6 * v2) ∧ q_in32 ((6 * v2) + v3) ∧ (0 ≤ ((6 * v2) + v3) ∧ ((6 * v2) + v3) < 36))
    (o8 : v3 < 6 → v1 ≠ v2 → v2 ≠ v3 → v1 ≠ v3 → (min (mem 197 ((6 * v1) + v2)) (mem 197 ((6 * v2) + v3))) ≠ 0 → q_in32 ((mem 197 ((6 * v1) + v2)) - (min (mem 197 ((6 * v1) + v2)) (mem 197 ((6 * v2) + v3)))) ∧ q_in32 (((q_up mem 197 ((6 * v1) + v2) ((mem 197 ((6 * v1) + v2)) - (min (mem 197 ((6 * v1) + v2)) (mem 197 ((6 * v2) + v3))))) 197 ((6 * v2) + v3)) - (min (mem 197 ((6 * v1) + v2)) (mem 197 ((6 * v2) + v3)))) ∧ q_in32 ((6 * v1) + v3) ∧ (0 ≤ ((6 * v1) + v3) ∧ ((6 * v1) + v3) < 36) ∧ q_in32 (((q_up (q_up mem 197 ((6 * v1) + v2) ((mem 197 ((6 * v1) + v2)) - (min (mem 197 ((6 * v1) + v2)) (mem 197 ((6 * v2) + v3))))) 197 ((6 * v2) + v3) (((q_up mem 197 ((6 * v1) + v2) ((mem 197 ((6 * v1) + v2)) - (min (mem 197 ((6 * v1) + v2)) (mem 197 ((6 * v2) + v3))))) 197 ((6 * v2) + v3)) - (min (mem 197 ((6 * v1) + v2)) (mem 197 ((6 * v2) + v3))))) 197 ((6 * v1) + v3)) + (min (mem 197 ((6 * v1) + v2)) (mem 197 ((6 * v2) + v3)))))
    {P6 : Int → qm → Prop}
    (l9 : v3 < 6 → v1 ≠ v2 → v2 ≠ v3 → v1 ≠ v3 → (min (mem 197 ((6 * v1) + v2)) (mem 197 ((6 * v2) + v3))) ≠ 0 → q_Ev yX12_setOff cX12_setOff 4 none 1 0 0 [(2, 188), (0, v1), (0, v3)] (q_sh0, q_rb b, (q_up (q_up (q_up mem 197 ((6 * v1) + v2) ((mem 197 ((6 * v1) + v2)) - (min (mem 197 ((6 * v1) + v2)) (mem 197 ((6 * v2) + v3))))) 197 ((6 * v2) + v3) (((q_up mem 197 ((6 * v1) + v2) ((mem 197 ((6 * v1) + v2)) - (min (mem 197 ((6 * v1) + v2)) (mem 197 ((6 * v2) + v3))))) 197 ((6 * v2) + v3)) - (min (mem 197 ((6 * v1) + v2)) (mem 197 ((6 * v2) + v3))))) 197 ((6 * v1) + v3) (min 999 (((q_up (q_up mem 197 ((6 * v1) + v2) ((mem 197 ((6 * v1) + v2)) - (min (mem 197 ((6 * v1) + v2)) (mem 197 ((6 * v2) + v3))))) 197 ((6 * v2) + v3) (((q_up mem 197 ((6 * v1) + v2) ((mem 197 ((6 * v1) + v2)) - (min (mem 197 ((6 * v1) + v2)) (mem 197 ((6 * v2) + v3))))) 197 ((6 * v2) + v3)) - (min (mem 197 ((6 * v1) + v2)) (mem 197 ((6 * v2) + v3))))) 197 ((6 * v1) + v3)) + (min (mem 197 ((6 * v1) + v2)) (mem 197 ((6 * v2) + v3))))))) (qK (q_rb b) (P6)))
    (l10 : v3 < 6 → v1 ≠ v2 → v2 ≠ v3 → v1 ≠ v3 → (min (mem 197 ((6 * v1) + v2)) (mem 197 ((6 * v2) + v3))) ≠ 0 → ∀ (r6 : Int), ∀ (m6 : qm), P6 r6 m6 → q_in32 r6 → Q 1 m6)
    (o11 : v3 < 6 → v1 ≠ v2 → v2 ≠ v3 → v1 ≠ v3 → (min (mem 197 ((6 * v1) + v2)) (mem 197 ((6 * v2) + v3))) = 0 → q_in32 (v3 + 1))
    (l12 : v3 < 6 → v1 ≠ v2 → v2 ≠ v3 → v1 ≠ v3 → (min (mem 197 ((6 * v1) + v2)) (mem 197 ((6 * v2) + v3))) = 0 → q_At yX12_settleOne cX12_settleOne 5 (some .boolean) 2 0 0 (qK (q_rb b) Q) 18 [(2, 188), (0, v1), (0, v2), (0, (v3 + 1)), (4, 0)] [] (q_sh0, q_rb b, mem))
    (o13 : v3 < 6 → v1 ≠ v2 → v2 ≠ v3 → v1 = v3 → q_in32 (v3 + 1))
    (l14 : v3 < 6 → v1 ≠ v2 → v2 ≠ v3 → v1 = v3 → q_At yX12_settleOne cX12_settleOne 5 (some .boolean) 2 0 0 (qK (q_rb b) Q) 18 [(2, 188), (0, v1), (0, v2), (0, (v3 + 1)), (4, 0)] [] (q_sh0, q_rb b, mem)) :
    q_At yX12_settleOne cX12_settleOne 5 (some .boolean) 2 0 0 (qK (q_rb b) Q) 18 [(2, 188), (0, v1), (0, v2), (0, v3), (4, 0)] [] (q_sh0, q_rb b, mem) := by
  refine q_iload_n dX12_settleOne_18 rfl rfl ?_
  refine qx_bipush dX12_settleOne_19 rfl rfl ?_
  refine qx_icmp_ge (tgt := 154) dX12_settleOne_21 (by decide) (fun c1 => ?_) (fun c1 => ?_)
  · skip
    refine qx_iinc (L' := [(2, 188), (0, v1), (0, (v2 + 1)), (0, v3), (4, 0)]) dX12_settleOne_154 rfl rfl rfl (o1 c1) rfl ?_
    refine q_goto (tgt := 10) dX12_settleOne_157 (by decide) ?_
    refine q_kill (L' := [(2, 188), (0, v1), (0, (v2 + 1)), (4, 0), (4, 0)]) 3 rfl ?_
    exact l2 c1
  · skip
    refine q_iload_n dX12_settleOne_24 rfl rfl ?_
    refine q_iload_n dX12_settleOne_25 rfl rfl ?_
    refine qx_icmp_eq (tgt := 148) dX12_settleOne_26 (by decide) (fun c2 => ?_) (fun c2 => ?_)
    · skip
      refine qx_iinc (L' := [(2, 188), (0, v1), (0, v2), (0, (v3 + 1)), (4, 0)]) dX12_settleOne_148 rfl rfl rfl (o3 c1 c2) rfl ?_
      refine q_goto (tgt := 18) dX12_settleOne_151 (by decide) ?_
      exact l4 c1 c2
    · skip
      refine q_iload_n dX12_settleOne_29 rfl rfl ?_
      refine q_iload_n dX12_settleOne_30 rfl rfl ?_
      refine qx_icmp_eq (tgt := 148) dX12_settleOne_31 (by decide) (fun c3 => ?_) (fun c3 => ?_)
      · skip
        refine qx_iinc (L' := [(2, 188), (0, v1), (0, v2), (0, (v3 + 1)), (4, 0)]) dX12_settleOne_148 rfl rfl rfl (o5 c1 c2 c3) rfl ?_
        refine q_goto (tgt := 18) dX12_settleOne_151 (by decide) ?_
        exact l6 c1 c2 c3
      · skip
        refine q_iload_n dX12_settleOne_34 rfl rfl ?_
        refine q_iload_n dX12_settleOne_35 rfl rfl ?_
        refine qx_icmp_ne (tgt := 42) dX12_settleOne_36 (by decide) (fun c4 => ?_) (fun c4 => ?_)
        · skip
          refine q_aload_n dX12_settleOne_42 rfl rfl ?_
          refine q_getR (ci := 12) (k := 9) dX12_settleOne_43 rfl (by decide) rfl tw1192 (by decide) qs188 qw188_9 (by decide) ?_
          refine qx_bipush dX12_settleOne_46 rfl rfl ?_
          refine q_iload_n dX12_settleOne_48 rfl rfl ?_
          refine qx_imul dX12_settleOne_49 (o7 c1 c2 c3 c4).1 ?_
          refine q_iload_n dX12_settleOne_50 rfl rfl ?_
          refine qx_iadd dX12_settleOne_51 (o7 c1 c2 c3 c4).2.1 ?_
          refine qx_iald (v := (mem 197 ((6 * v1) + v2))) dX12_settleOne_52 qs197 (o7 c1 c2 c3 c4).2.2.1 rfl ?_
          refine q_aload_n dX12_settleOne_53 rfl rfl ?_
          refine q_getR (ci := 12) (k := 9) dX12_settleOne_54 rfl (by decide) rfl tw1192 (by decide) qs188 qw188_9 (by decide) ?_
          refine qx_bipush dX12_settleOne_57 rfl rfl ?_
          refine q_iload_n dX12_settleOne_59 rfl rfl ?_
          refine qx_imul dX12_settleOne_60 (o7 c1 c2 c3 c4).2.2.2.1 ?_
          refine q_iload_n dX12_settleOne_61 rfl rfl ?_
          refine qx_iadd dX12_settleOne_62 (o7 c1 c2 c3 c4).2.2.2.2.1 ?_
          refine qx_iald (v := (mem 197 ((6 * v2) + v3))) dX12_settleOne_63 qs197 (o7 c1 c2 c3 c4).2.2.2.2.2 rfl ?_
          refine q_min dX12_settleOne_64 tw1457 tw429 tw15 tw430 (by decide) (Nat.le_of_ble_eq_true rfl) ?_
          refine qx_istore (L' := [(2, 188), (0, v1), (0, v2), (0, v3), (0, (min (mem 197 ((6 * v1) + v2)) (mem 197 ((6 * v2) + v3))))]) dX12_settleOne_67 rfl rfl rfl ?_
          refine q_iload dX12_settleOne_69 rfl ?_
          refine qx_if_ne (tgt := 77) dX12_settleOne_71 (by decide) (fun c5 => ?_) (fun c5 => ?_)
          · skip
            refine q_aload_n dX12_settleOne_77 rfl rfl ?_
            refine q_getR (ci := 12) (k := 9) dX12_settleOne_78 rfl (by decide) rfl tw1192 (by decide) qs188 qw188_9 (by decide) ?_
            refine qx_bipush dX12_settleOne_81 rfl rfl ?_
            refine q_iload_n dX12_settleOne_83 rfl rfl ?_
            refine qx_imul dX12_settleOne_84 (o7 c1 c2 c3 c4).1 ?_
            refine q_iload_n dX12_settleOne_85 rfl rfl ?_
            refine qx_iadd dX12_settleOne_86 (o7 c1 c2 c3 c4).2.1 ?_
            refine q_dup2 dX12_settleOne_87 (fun h => by cases h) (fun h => by cases h) ?_
            refine qx_iald (v := (mem 197 ((6 * v1) + v2))) dX12_settleOne_88 qs197 (o7 c1 c2 c3 c4).2.2.1 rfl ?_
            refine q_iload dX12_settleOne_89 rfl ?_
            refine qx_isub dX12_settleOne_91 (o8 c1 c2 c3 c4 c5).1 ?_
            refine q_iast dX12_settleOne_92 qs197 ((o7 c1 c2 c3 c4).2.2.1).1 ((o7 c1 c2 c3 c4).2.2.1).2 ?_
            refine q_aload_n dX12_settleOne_93 rfl rfl ?_
            refine q_getR (ci := 12) (k := 9) dX12_settleOne_94 rfl (by decide) rfl tw1192 (by decide) qs188 qw188_9 (by decide) ?_
            refine qx_bipush dX12_settleOne_97 rfl rfl ?_
            refine q_iload_n dX12_settleOne_99 rfl rfl ?_
            refine qx_imul dX12_settleOne_100 (o7 c1 c2 c3 c4).2.2.2.1 ?_
            refine q_iload_n dX12_settleOne_101 rfl rfl ?_
            refine qx_iadd dX12_settleOne_102 (o7 c1 c2 c3 c4).2.2.2.2.1 ?_
            refine q_dup2 dX12_settleOne_103 (fun h => by cases h) (fun h => by cases h) ?_
            refine qx_iald (v := ((q_up mem 197 ((6 * v1) + v2) ((mem 197 ((6 * v1) + v2)) - (min (mem 197 ((6 * v1) + v2)) (mem 197 ((6 * v2) + v3))))) 197 ((6 * v2) + v3))) dX12_settleOne_104 qs197 (o7 c1 c2 c3 c4).2.2.2.2.2 rfl ?_
            refine q_iload dX12_settleOne_105 rfl ?_
            refine qx_isub dX12_settleOne_107 (o8 c1 c2 c3 c4 c5).2.1 ?_
            refine q_iast dX12_settleOne_108 qs197 ((o7 c1 c2 c3 c4).2.2.2.2.2).1 ((o7 c1 c2 c3 c4).2.2.2.2.2).2 ?_
            refine q_aload_n dX12_settleOne_109 rfl rfl ?_
            refine q_getR (ci := 12) (k := 9) dX12_settleOne_110 rfl (by decide) rfl tw1192 (by decide) qs188 qw188_9 (by decide) ?_
            refine qx_bipush dX12_settleOne_113 rfl rfl ?_
            refine q_iload_n dX12_settleOne_115 rfl rfl ?_
            refine qx_imul dX12_settleOne_116 (o7 c1 c2 c3 c4).1 ?_
            refine q_iload_n dX12_settleOne_117 rfl rfl ?_
            refine qx_iadd dX12_settleOne_118 (o8 c1 c2 c3 c4 c5).2.2.1 ?_
            refine qx_sipush dX12_settleOne_119 rfl rfl ?_
            refine q_aload_n dX12_settleOne_122 rfl rfl ?_
            refine q_getR (ci := 12) (k := 9) dX12_settleOne_123 rfl (by decide) rfl tw1192 (by decide) qs188 qw188_9 (by decide) ?_
            refine qx_bipush dX12_settleOne_126 rfl rfl ?_
            refine q_iload_n dX12_settleOne_128 rfl rfl ?_
            refine qx_imul dX12_settleOne_129 (o7 c1 c2 c3 c4).1 ?_
            refine q_iload_n dX12_settleOne_130 rfl rfl ?_
            refine qx_iadd dX12_settleOne_131 (o8 c1 c2 c3 c4 c5).2.2.1 ?_
            refine qx_iald (v := ((q_up (q_up mem 197 ((6 * v1) + v2) ((mem 197 ((6 * v1) + v2)) - (min (mem 197 ((6 * v1) + v2)) (mem 197 ((6 * v2) + v3))))) 197 ((6 * v2) + v3) (((q_up mem 197 ((6 * v1) + v2) ((mem 197 ((6 * v1) + v2)) - (min (mem 197 ((6 * v1) + v2)) (mem 197 ((6 * v2) + v3))))) 197 ((6 * v2) + v3)) - (min (mem 197 ((6 * v1) + v2)) (mem 197 ((6 * v2) + v3))))) 197 ((6 * v1) + v3))) dX12_settleOne_132 qs197 (o8 c1 c2 c3 c4 c5).2.2.2.1 rfl ?_
            refine q_iload dX12_settleOne_133 rfl ?_
            refine qx_iadd dX12_settleOne_135 (o8 c1 c2 c3 c4 c5).2.2.2.2 ?_
            refine q_min dX12_settleOne_136 tw1457 tw429 tw15 tw430 (by decide) (Nat.le_of_ble_eq_true rfl) ?_
            refine q_iast dX12_settleOne_139 qs197 ((o8 c1 c2 c3 c4 c5).2.2.2.1).1 ((o8 c1 c2 c3 c4 c5).2.2.2.1).2 ?_
            refine q_aload_n dX12_settleOne_140 rfl rfl ?_
            refine q_iload_n dX12_settleOne_141 rfl rfl ?_
            refine q_iload_n dX12_settleOne_142 rfl rfl ?_
            refine qx_invV (ci := 12) [(0, v1), (0, v3)] [(0, v3), (0, v1), (2, 188)] rfl qM_X12_setOff dX12_settleOne_143 tw1671 rfl qs188 rfl rfl rfl rfl (l9 c1 c2 c3 c4 c5) (fun r6 m6 p6 q6 => ?_)
            refine qx_iconst dX12_settleOne_146 rfl rfl ?_
            exact q_zret dX12_settleOne_147 (by decide) (qK_i (l10 c1 c2 c3 c4 c5 r6 m6 p6 q6))
          · skip
            refine q_goto (tgt := 148) dX12_settleOne_74 (by decide) ?_
            refine qx_iinc (L' := [(2, 188), (0, v1), (0, v2), (0, (v3 + 1)), (0, (min (mem 197 ((6 * v1) + v2)) (mem 197 ((6 * v2) + v3))))]) dX12_settleOne_148 rfl rfl rfl (o11 c1 c2 c3 c4 c5) rfl ?_
            refine q_goto (tgt := 18) dX12_settleOne_151 (by decide) ?_
            refine q_kill (L' := [(2, 188), (0, v1), (0, v2), (0, (v3 + 1)), (4, 0)]) 4 rfl ?_
            exact l12 c1 c2 c3 c4 c5
        · skip
          refine q_goto (tgt := 148) dX12_settleOne_39 (by decide) ?_
          refine qx_iinc (L' := [(2, 188), (0, v1), (0, v2), (0, (v3 + 1)), (4, 0)]) dX12_settleOne_148 rfl rfl rfl (o13 c1 c2 c3 c4) rfl ?_
          refine q_goto (tgt := 18) dX12_settleOne_151 (by decide) ?_
          exact l14 c1 c2 c3 c4
theorem dX12_settle_0 : decode cX12_settle 0 = .ok (.aload_n 0, 1) := by decide +kernel
theorem dX12_settle_1 : decode cX12_settle 1 = .ok (.iconst 0, 1) := by decide +kernel
theorem dX12_settle_2 : decode cX12_settle 2 = .ok (.putfield 128, 3) := by decide +kernel
theorem dX12_settle_5 : decode cX12_settle 5 = .ok (.aload_n 0, 1) := by decide +kernel
theorem dX12_settle_6 : decode cX12_settle 6 = .ok (.invokevirtual 286, 3) := by decide +kernel
theorem dX12_settle_9 : decode cX12_settle 9 = .ok (.istore_n 1, 1) := by decide +kernel
theorem dX12_settle_10 : decode cX12_settle 10 = .ok (.iconst 0, 1) := by decide +kernel
theorem dX12_settle_11 : decode cX12_settle 11 = .ok (.istore_n 2, 1) := by decide +kernel
theorem dX12_settle_12 : decode cX12_settle 12 = .ok (.iload_n 2, 1) := by decide +kernel
theorem dX12_settle_13 : decode cX12_settle 13 = .ok (.bipush 6, 2) := by decide +kernel
theorem dX12_settle_15 : decode cX12_settle 15 = .ok (.if_icmp .ge 28, 3) := by decide +kernel
theorem dX12_settle_18 : decode cX12_settle 18 = .ok (.iconst 0, 1) := by decide +kernel
theorem dX12_settle_19 : decode cX12_settle 19 = .ok (.istore_n 3, 1) := by decide +kernel
theorem dX12_settle_20 : decode cX12_settle 20 = .ok (.iload_n 3, 1) := by decide +kernel
theorem dX12_settle_21 : decode cX12_settle 21 = .ok (.iload_n 2, 1) := by decide +kernel
theorem dX12_settle_22 : decode cX12_settle 22 = .ok (.if_icmp .ge 15, 3) := by decide +kernel
theorem dX12_settle_25 : decode cX12_settle 25 = .ok (.aload_n 0, 1) := by decide +kernel
theorem dX12_settle_26 : decode cX12_settle 26 = .ok (.iload_n 2, 1) := by decide +kernel
theorem dX12_settle_27 : decode cX12_settle 27 = .ok (.iload_n 3, 1) := by decide +kernel
theorem dX12_settle_28 : decode cX12_settle 28 = .ok (.invokevirtual 360, 3) := by decide +kernel
theorem dX12_settle_31 : decode cX12_settle 31 = .ok (.iinc 3 1, 3) := by decide +kernel
theorem dX12_settle_34 : decode cX12_settle 34 = .ok (.goto (-14), 3) := by decide +kernel
theorem dX12_settle_37 : decode cX12_settle 37 = .ok (.iinc 2 1, 3) := by decide +kernel
theorem dX12_settle_40 : decode cX12_settle 40 = .ok (.goto (-28), 3) := by decide +kernel
theorem dX12_settle_43 : decode cX12_settle 43 = .ok (.iconst 0, 1) := by decide +kernel
theorem dX12_settle_44 : decode cX12_settle 44 = .ok (.istore_n 2, 1) := by decide +kernel
theorem dX12_settle_45 : decode cX12_settle 45 = .ok (.aload_n 0, 1) := by decide +kernel
theorem dX12_settle_46 : decode cX12_settle 46 = .ok (.invokevirtual 363, 3) := by decide +kernel
theorem dX12_settle_49 : decode cX12_settle 49 = .ok (.ifCond .eq 9, 3) := by decide +kernel
theorem dX12_settle_52 : decode cX12_settle 52 = .ok (.iinc 2 1, 3) := by decide +kernel
theorem dX12_settle_55 : decode cX12_settle 55 = .ok (.goto (-10), 3) := by decide +kernel
theorem dX12_settle_58 : decode cX12_settle 58 = .ok (.aload_n 0, 1) := by decide +kernel
theorem dX12_settle_59 : decode cX12_settle 59 = .ok (.iconst 0, 1) := by decide +kernel
theorem dX12_settle_60 : decode cX12_settle 60 = .ok (.putfield 197, 3) := by decide +kernel
theorem dX12_settle_63 : decode cX12_settle 63 = .ok (.aload_n 0, 1) := by decide +kernel
theorem dX12_settle_64 : decode cX12_settle 64 = .ok (.iconst 0, 1) := by decide +kernel
theorem dX12_settle_65 : decode cX12_settle 65 = .ok (.putfield 131, 3) := by decide +kernel
theorem dX12_settle_68 : decode cX12_settle 68 = .ok (.aload_n 0, 1) := by decide +kernel
theorem dX12_settle_69 : decode cX12_settle 69 = .ok (.iload_n 1, 1) := by decide +kernel
theorem dX12_settle_70 : decode cX12_settle 70 = .ok (.invokevirtual 276, 3) := by decide +kernel
theorem dX12_settle_73 : decode cX12_settle 73 = .ok (.aload_n 0, 1) := by decide +kernel
theorem dX12_settle_74 : decode cX12_settle 74 = .ok (.aload_n 0, 1) := by decide +kernel
theorem dX12_settle_75 : decode cX12_settle 75 = .ok (.invokevirtual 286, 3) := by decide +kernel
theorem dX12_settle_78 : decode cX12_settle 78 = .ok (.invokevirtual 276, 3) := by decide +kernel
theorem dX12_settle_81 : decode cX12_settle 81 = .ok (.iload_n 2, 1) := by decide +kernel
theorem dX12_settle_82 : decode cX12_settle 82 = .ok (.ireturn, 1) := by decide +kernel
theorem bkX12_settle_0 {b : Int} {mem : qm} {Q : Int → qm → Prop}
    {P1 : Int → qm → Prop}
    (l1 : q_Ev yX12_allDebts cX12_allDebts 6 (some .int) 1 0 0 [(2, 188)] (q_sh0, q_rb b, (q_up mem 188 17 0)) (qK (q_rb b) (P1)))
    (l2 : ∀ (r1 : Int), ∀ (m1 : qm), P1 r1 m1 → q_in32 r1 → q_At yX12_settle cX12_settle 4 (some .int) 3 0 0 (qK (q_rb b) Q) 12 [(2, 188), (0, r1), (0, 0), (4, 0)] [] (q_sh0, q_rb b, m1)) :
    q_At yX12_settle cX12_settle 4 (some .int) 3 0 0 (qK (q_rb b) Q) 0 [(2, 188), (4, 0), (4, 0), (4, 0)] [] (q_sh0, q_rb b, mem) := by
  refine q_aload_n dX12_settle_0 rfl rfl ?_
  refine qx_iconst dX12_settle_1 rfl rfl ?_
  refine q_putI (ci := 12) (k := 17) (kI := 17) (ty := .int) dX12_settle_2 rfl (by decide) rfl tw1200 rfl rfl rfl (fun _ => ⟨rfl, rfl⟩) qs188 ?_
  refine q_aload_n dX12_settle_5 rfl rfl ?_
  refine qx_invV (ci := 12) [] [(2, 188)] rfl qM_X12_allDebts dX12_settle_6 tw1529 rfl qs188 rfl rfl rfl rfl (l1) (fun r1 m1 p1 q1 => ?_)
  refine qx_istore_n (L' := [(2, 188), (0, r1), (4, 0), (4, 0)]) dX12_settle_9 rfl rfl rfl rfl ?_
  refine qx_iconst dX12_settle_10 rfl rfl ?_
  refine qx_istore_n (L' := [(2, 188), (0, r1), (0, 0), (4, 0)]) dX12_settle_11 rfl rfl rfl rfl ?_
  exact l2 r1 m1 p1 q1
theorem bkX12_settle_12 {b : Int} {mem : qm} {Q : Int → qm → Prop}
    {v1 v2 : Int}
    (l1 : 6 ≤ v2 → q_At yX12_settle cX12_settle 4 (some .int) 3 0 0 (qK (q_rb b) Q) 45 [(2, 188), (0, v1), (0, 0), (4, 0)] [] (q_sh0, q_rb b, mem))
    (l2 : v2 < 6 → q_At yX12_settle cX12_settle 4 (some .int) 3 0 0 (qK (q_rb b) Q) 20 [(2, 188), (0, v1), (0, v2), (0, 0)] [] (q_sh0, q_rb b, mem)) :
    q_At yX12_settle cX12_settle 4 (some .int) 3 0 0 (qK (q_rb b) Q) 12 [(2, 188), (0, v1), (0, v2), (4, 0)] [] (q_sh0, q_rb b, mem) := by
  refine q_iload_n dX12_settle_12 rfl rfl ?_
  refine qx_bipush dX12_settle_13 rfl rfl ?_
  refine qx_icmp_ge (tgt := 43) dX12_settle_15 (by decide) (fun c1 => ?_) (fun c1 => ?_)
  · skip
    refine qx_iconst dX12_settle_43 rfl rfl ?_
    refine qx_istore_n (L' := [(2, 188), (0, v1), (0, 0), (4, 0)]) dX12_settle_44 rfl rfl rfl rfl ?_
    exact l1 c1
  · skip
    refine qx_iconst dX12_settle_18 rfl rfl ?_
    refine qx_istore_n (L' := [(2, 188), (0, v1), (0, v2), (0, 0)]) dX12_settle_19 rfl rfl rfl rfl ?_
    exact l2 c1
theorem bkX12_settle_20 {b : Int} {mem : qm} {Q : Int → qm → Prop}
    {v1 v2 v3 : Int}
    (o1 : v2 ≤ v3 → q_in32 (v2 + 1))
    (l2 : v2 ≤ v3 → q_At yX12_settle cX12_settle 4 (some .int) 3 0 0 (qK (q_rb b) Q) 12 [(2, 188), (0, v1), (0, (v2 + 1)), (4, 0)] [] (q_sh0, q_rb b, mem))
    {P2 : Int → qm → Prop}
    (l3 : v3 < v2 → q_Ev yX12_setOff cX12_setOff 4 none 1 0 0 [(2, 188), (0, v2), (0, v3)] (q_sh0, q_rb b, mem) (qK (q_rb b) (P2)))
    (o4 : v3 < v2 → ∀ (r2 : Int), ∀ (m2 : qm), P2 r2 m2 → q_in32 r2 → q_in32 (v3 + 1))
    (l5 : v3 < v2 → ∀ (r2 : Int), ∀ (m2 : qm), P2 r2 m2 → q_in32 r2 → q_At yX12_settle cX12_settle 4 (some .int) 3 0 0 (qK (q_rb b) Q) 20 [(2, 188), (0, v1), (0, v2), (0, (v3 + 1))] [] (q_sh0, q_rb b, m2)) :
    q_At yX12_settle cX12_settle 4 (some .int) 3 0 0 (qK (q_rb b) Q) 20 [(2, 188), (0, v1), (0, v2), (0, v3)] [] (q_sh0, q_rb b, mem) := by
  refine q_iload_n dX12_settle_20 rfl rfl ?_
  refine q_iload_n dX12_settle_21 rfl rfl ?_
  refine qx_icmp_ge (tgt := 37) dX12_settle_22 (by decide) (fun c1 => ?_) (fun c1 => ?_)
  · skip
    refine qx_iinc (L' := [(2, 188), (0, v1), (0, (v2 + 1)), (0, v3)]) dX12_settle_37 rfl rfl rfl (o1 c1) rfl ?_
    refine q_goto (tgt := 12) dX12_settle_40 (by decide) ?_
    refine q_kill (L' := [(2, 188), (0, v1), (0, (v2 + 1)), (4, 0)]) 3 rfl ?_
    exact l2 c1
  · skip
    refine q_aload_n dX12_settle_25 rfl rfl ?_
    refine q_iload_n dX12_settle_26 rfl rfl ?_
    refine q_iload_n dX12_settle_27 rfl rfl ?_
    refine qx_invV (ci := 12) [(0, v2), (0, v3)] [(0, v3), (0, v2), (2, 188)] rfl qM_X12_setOff dX12_settle_28 tw1671 rfl qs188 rfl rfl rfl rfl (l3 c1) (fun r2 m2 p2 q2 => ?_)
    refine qx_iinc (L' := [(2, 188), (0, v1), (0, v2), (0, (v3 + 1))]) dX12_settle_31 rfl rfl rfl (o4 c1 r2 m2 p2 q2) rfl ?_
    refine q_goto (tgt := 20) dX12_settle_34 (by decide) ?_
    exact l5 c1 r2 m2 p2 q2
theorem bkX12_settle_45 {b : Int} {mem : qm} {Q : Int → qm → Prop}
    {v1 v2 : Int}
    {P1 : Int → qm → Prop}
    (l1 : q_Ev yX12_settleOne cX12_settleOne 5 (some .boolean) 2 0 0 [(2, 188)] (q_sh0, q_rb b, mem) (qK (q_rb b) (P1)))
    (o2 : ∀ (r1 : Int), ∀ (m1 : qm), P1 r1 m1 → q_in32 r1 → r1 = 0 → (0 ≤ (0 : Int) ∧ (0 : Int) < 16))
    {P4 : Int → qm → Int → qm → Prop}
    (l3 : ∀ (r1 : Int), ∀ (m1 : qm), P1 r1 m1 → q_in32 r1 → r1 = 0 → q_Ev yX12_allDebts cX12_allDebts 6 (some .int) 1 0 0 [(2, 188)] (q_sh0, q_rb b, (q_up (q_up (q_up (q_up m1 188 30 0) 188 16 0) 199 (0 : Int) v1) 188 16 ((0 : Int) + 1))) (qK (q_rb b) (P4 r1 m1)))
    (o4 : ∀ (r1 : Int), ∀ (m1 : qm), P1 r1 m1 → q_in32 r1 → r1 = 0 → ∀ (r4 : Int), ∀ (m4 : qm), P4 r1 m1 r4 m4 → q_in32 r4 → (0 ≤ (m4 188 16) ∧ (m4 188 16) < 16))
    (l5 : ∀ (r1 : Int), ∀ (m1 : qm), P1 r1 m1 → q_in32 r1 → r1 = 0 → ∀ (r4 : Int), ∀ (m4 : qm), P4 r1 m1 r4 m4 → q_in32 r4 → Q v2 (q_up (q_up m4 199 (m4 188 16) r4) 188 16 ((m4 188 16) + 1)))
    (o6 : ∀ (r1 : Int), ∀ (m1 : qm), P1 r1 m1 → q_in32 r1 → r1 ≠ 0 → q_in32 (v2 + 1))
    (l7 : ∀ (r1 : Int), ∀ (m1 : qm), P1 r1 m1 → q_in32 r1 → r1 ≠ 0 → q_At yX12_settle cX12_settle 4 (some .int) 3 0 0 (qK (q_rb b) Q) 45 [(2, 188), (0, v1), (0, (v2 + 1)), (4, 0)] [] (q_sh0, q_rb b, m1)) :
    q_At yX12_settle cX12_settle 4 (some .int) 3 0 0 (qK (q_rb b) Q) 45 [(2, 188), (0, v1), (0, v2), (4, 0)] [] (q_sh0, q_rb b, mem) := by
  refine q_aload_n dX12_settle_45 rfl rfl ?_
  refine qx_invV (ci := 12) [] [(2, 188)] rfl qM_X12_settleOne dX12_settle_46 tw1675 rfl qs188 rfl rfl rfl rfl (l1) (fun r1 m1 p1 q1 => ?_)
  refine qx_if_eq (tgt := 58) dX12_settle_49 (by decide) (fun c2 => ?_) (fun c2 => ?_)
  · skip
    refine q_aload_n dX12_settle_58 rfl rfl ?_
    refine qx_iconst dX12_settle_59 rfl rfl ?_
    refine q_putI (ci := 12) (k := 30) (kI := 30) (ty := .int) dX12_settle_60 rfl (by decide) rfl tw1213 rfl rfl rfl (fun _ => ⟨rfl, rfl⟩) qs188 ?_
    refine q_aload_n dX12_settle_63 rfl rfl ?_
    refine qx_iconst dX12_settle_64 rfl rfl ?_
    refine q_putI (ci := 12) (k := 16) (kI := 16) (ty := .int) dX12_settle_65 rfl (by decide) rfl tw1199 rfl rfl rfl (fun _ => ⟨rfl, rfl⟩) qs188 ?_
    refine q_aload_n dX12_settle_68 rfl rfl ?_
    refine q_iload_n dX12_settle_69 rfl rfl ?_
    refine qx_invV (ci := 12) [(0, v1)] [(0, v1), (2, 188)] rfl qM_X12_tell dX12_settle_70 tw1509 rfl qs188 rfl rfl rfl rfl (spX12_tell (by first | exact (o2 r1 m1 p1 q1 c2) | (simp only [q_up, Int.reduceEq, false_and, true_and, and_true, and_false, ite_false, ite_true, if_true, if_false]; exact (o2 r1 m1 p1 q1 c2)))) (fun r3 m3 p3 q3 => ?_)
    obtain rfl := p3
    refine q_aload_n dX12_settle_73 rfl rfl ?_
    refine q_aload_n dX12_settle_74 rfl rfl ?_
    refine qx_invV (ci := 12) [] [(2, 188), (2, 188)] rfl qM_X12_allDebts dX12_settle_75 tw1529 rfl qs188 rfl rfl rfl rfl (l3 r1 m1 p1 q1 c2) (fun r4 m4 p4 q4 => ?_)
    refine qx_invV (ci := 12) [(0, r4)] [(0, r4), (2, 188)] rfl qM_X12_tell dX12_settle_78 tw1509 rfl qs188 rfl rfl rfl rfl (spX12_tell (o4 r1 m1 p1 q1 c2 r4 m4 p4 q4)) (fun r5 m5 p5 q5 => ?_)
    obtain rfl := p5
    refine q_iload_n dX12_settle_81 rfl rfl ?_
    exact q_iret dX12_settle_82 (qK_i (l5 r1 m1 p1 q1 c2 r4 m4 p4 q4))
  · skip
    refine qx_iinc (L' := [(2, 188), (0, v1), (0, (v2 + 1)), (4, 0)]) dX12_settle_52 rfl rfl rfl (o6 r1 m1 p1 q1 c2) rfl ?_
    refine q_goto (tgt := 45) dX12_settle_55 (by decide) ?_
    exact l7 r1 m1 p1 q1 c2
