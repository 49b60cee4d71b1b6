theorem q_st34 {i : Int} (h : 0 ≤ i ∧ i < 12) : q_st (35 + 9 * i) := by
  obtain ⟨n, rfl⟩ : ∃ n : Nat, i = n := ⟨i.toNat, by omega⟩
  have : n < 12 := by omega
  have key : ∀ n : Fin 12, q_st (35 + 9 * ((n : Nat) : Int)) := by unfold q_st; decide
  exact key ⟨n, this⟩
theorem q_st143 {i : Int} (h : 0 ≤ i ∧ i < 2) : q_st (170 + 9 * i) := by
  obtain ⟨n, rfl⟩ : ∃ n : Nat, i = n := ⟨i.toNat, by omega⟩
  have : n < 2 := by omega
  have key : ∀ n : Fin 2, q_st (170 + 9 * ((n : Nat) : Int)) := by unfold q_st; decide
  exact key ⟨n, this⟩
theorem q_wt143 {i b : Int} (h : 0 ≤ i ∧ i < 2) : q_rb b 143 i = 170 + 9 * i := by
  have : i = 0 ∨ i = 1 := by omega
  rcases this with rfl | rfl
  · exact qw143_0
  · exact qw143_1
theorem q_wt34 {i b : Int} (h : 0 ≤ i ∧ i < 12) : q_rb b 34 i = 35 + 9 * i := by
  have : i = 0 ∨ i = 1 ∨ i = 2 ∨ i = 3 ∨ i = 4 ∨ i = 5 ∨ i = 6 ∨ i = 7 ∨ i = 8 ∨ i = 9 ∨ i = 10 ∨ i = 11 := by omega
  rcases this with rfl | rfl | rfl | rfl | rfl | rfl | rfl | rfl | rfl | rfl | rfl | rfl
  · exact qw34_0
  · exact qw34_1
  · exact qw34_2
  · exact qw34_3
  · exact qw34_4
  · exact qw34_5
  · exact qw34_6
  · exact qw34_7
  · exact qw34_8
  · exact qw34_9
  · exact qw34_10
  · exact qw34_11
theorem dX7_placeOf_0 : decode cX7_placeOf 0 = .ok (.iload_n 1, 1) := by decide +kernel
theorem dX7_placeOf_1 : decode cX7_placeOf 1 = .ok (.bipush 60, 2) := by decide +kernel
theorem dX7_placeOf_3 : decode cX7_placeOf 3 = .ok (.imul, 1) := by decide +kernel
theorem dX7_placeOf_4 : decode cX7_placeOf 4 = .ok (.aload_n 0, 1) := by decide +kernel
theorem dX7_placeOf_5 : decode cX7_placeOf 5 = .ok (.getfield 15, 3) := by decide +kernel
theorem dX7_placeOf_8 : decode cX7_placeOf 8 = .ok (.iload_n 1, 1) := by decide +kernel
theorem dX7_placeOf_9 : decode cX7_placeOf 9 = .ok (.iaload, 1) := by decide +kernel
theorem dX7_placeOf_10 : decode cX7_placeOf 10 = .ok (.iload_n 2, 1) := by decide +kernel
theorem dX7_placeOf_11 : decode cX7_placeOf 11 = .ok (.iadd, 1) := by decide +kernel
theorem dX7_placeOf_12 : decode cX7_placeOf 12 = .ok (.bipush 60, 2) := by decide +kernel
theorem dX7_placeOf_14 : decode cX7_placeOf 14 = .ok (.irem, 1) := by decide +kernel
theorem dX7_placeOf_15 : decode cX7_placeOf 15 = .ok (.iadd, 1) := by decide +kernel
theorem dX7_placeOf_16 : decode cX7_placeOf 16 = .ok (.ireturn, 1) := by decide +kernel
theorem bkX7_placeOf_0 {b : Int} {mem : qm} {Q : Int → qm → Prop}
    {j k s : Int}
    (hs : q_st s)
    (o1 : q_in32 (j * 60) ∧ (0 ≤ j ∧ j < 9) ∧ q_in32 ((mem (s + 2) j) + k) ∧ q_in32 ((j * 60) + (q_oirem ((mem (s + 2) j) + k) 60)))
    (l2 : Q ((j * 60) + (q_oirem ((mem (s + 2) j) + k) 60)) mem) :
    q_At yX7_placeOf cX7_placeOf 3 (some .int) 1 0 0 (qK (q_rb b) Q) 0 [(2, s), (0, j), (0, k)] [] (q_sh0, q_rb b, mem) := by
  refine q_iload_n dX7_placeOf_0 rfl rfl ?_
  refine qx_bipush dX7_placeOf_1 rfl rfl ?_
  refine qx_imul dX7_placeOf_3 (o1).1 ?_
  refine q_aload_n dX7_placeOf_4 rfl rfl ?_
  refine q_getR (ci := 7) (k := 1) dX7_placeOf_5 rfl (by decide) rfl tw71 (by decide) (qst0 hs) (qsw1 hs) (by have := qst_nn hs; omega) ?_
  refine q_iload_n dX7_placeOf_8 rfl rfl ?_
  refine qx_iald (v := (mem (s + 2) j)) dX7_placeOf_9 (qst2 hs) (o1).2.1 rfl ?_
  refine q_iload_n dX7_placeOf_10 rfl rfl ?_
  refine qx_iadd dX7_placeOf_11 (o1).2.2.1 ?_
  refine qx_bipush dX7_placeOf_12 rfl rfl ?_
  refine q_irem dX7_placeOf_14 (by decide) ?_
  refine qx_iadd dX7_placeOf_15 (o1).2.2.2 ?_
  exact q_iret dX7_placeOf_16 (qK_i (l2))
theorem dX7_originAt_0 : decode cX7_originAt 0 = .ok (.aload_n 0, 1) := by decide +kernel
theorem dX7_originAt_1 : decode cX7_originAt 1 = .ok (.getfield 9, 3) := by decide +kernel
theorem dX7_originAt_4 : decode cX7_originAt 4 = .ok (.aload_n 0, 1) := by decide +kernel
theorem dX7_originAt_5 : decode cX7_originAt 5 = .ok (.iload_n 1, 1) := by decide +kernel
theorem dX7_originAt_6 : decode cX7_originAt 6 = .ok (.iload_n 2, 1) := by decide +kernel
theorem dX7_originAt_7 : decode cX7_originAt 7 = .ok (.invokevirtual 50, 3) := by decide +kernel
theorem dX7_originAt_10 : decode cX7_originAt 10 = .ok (.iaload, 1) := by decide +kernel
theorem dX7_originAt_11 : decode cX7_originAt 11 = .ok (.ireturn, 1) := by decide +kernel
theorem bkX7_originAt_0 {b : Int} {mem : qm} {Q : Int → qm → Prop}
    {j k s : Int}
    (hs : q_st s)
    {P1 : Int → qm → Prop}
    (l1 : q_Ev yX7_placeOf cX7_placeOf 3 (some .int) 1 0 0 [(2, s), (0, j), (0, k)] (q_sh0, q_rb b, mem) (qK (q_rb b) (P1)))
    (o2 : ∀ (r1 : Int), ∀ (m1 : qm), P1 r1 m1 → q_in32 r1 → (0 ≤ r1 ∧ r1 < 540))
    (l3 : ∀ (r1 : Int), ∀ (m1 : qm), P1 r1 m1 → q_in32 r1 → Q (m1 (s + 1) r1) m1) :
    q_At yX7_originAt cX7_originAt 3 (some .int) 2 0 0 (qK (q_rb b) Q) 0 [(2, s), (0, j), (0, k)] [] (q_sh0, q_rb b, mem) := by
  refine q_aload_n dX7_originAt_0 rfl rfl ?_
  refine q_getR (ci := 7) (k := 0) dX7_originAt_1 rfl (by decide) rfl tw70 (by decide) (qst0 hs) (qsw0 hs) (by have := qst_nn hs; omega) ?_
  refine q_aload_n dX7_originAt_4 rfl rfl ?_
  refine q_iload_n dX7_originAt_5 rfl rfl ?_
  refine q_iload_n dX7_originAt_6 rfl rfl ?_
  refine qx_invV (ci := 7) [(0, j), (0, k)] [(0, k), (0, j), (2, s), (2, (s + 1))] rfl qM_X7_placeOf dX7_originAt_7 tw498 rfl (qst0 hs) rfl rfl rfl rfl (l1) (fun r1 m1 p1 q1 => ?_)
  refine qx_iald (v := (m1 (s + 1) r1)) dX7_originAt_10 (qst1 hs) (o2 r1 m1 p1 q1) rfl ?_
  exact q_iret dX7_originAt_11 (qK_i (l3 r1 m1 p1 q1))
theorem dX7_putBehind_0 : decode cX7_putBehind 0 = .ok (.aload_n 0, 1) := by decide +kernel
theorem dX7_putBehind_1 : decode cX7_putBehind 1 = .ok (.getfield 9, 3) := by decide +kernel
theorem dX7_putBehind_4 : decode cX7_putBehind 4 = .ok (.aload_n 0, 1) := by decide +kernel
theorem dX7_putBehind_5 : decode cX7_putBehind 5 = .ok (.iload_n 1, 1) := by decide +kernel
theorem dX7_putBehind_6 : decode cX7_putBehind 6 = .ok (.aload_n 0, 1) := by decide +kernel
theorem dX7_putBehind_7 : decode cX7_putBehind 7 = .ok (.getfield 18, 3) := by decide +kernel
theorem dX7_putBehind_10 : decode cX7_putBehind 10 = .ok (.iload_n 1, 1) := by decide +kernel
theorem dX7_putBehind_11 : decode cX7_putBehind 11 = .ok (.iaload, 1) := by decide +kernel
theorem dX7_putBehind_12 : decode cX7_putBehind 12 = .ok (.invokevirtual 50, 3) := by decide +kernel
theorem dX7_putBehind_15 : decode cX7_putBehind 15 = .ok (.iload_n 2, 1) := by decide +kernel
theorem dX7_putBehind_16 : decode cX7_putBehind 16 = .ok (.iastore, 1) := by decide +kernel
theorem dX7_putBehind_17 : decode cX7_putBehind 17 = .ok (.aload_n 0, 1) := by decide +kernel
theorem dX7_putBehind_18 : decode cX7_putBehind 18 = .ok (.getfield 18, 3) := by decide +kernel
theorem dX7_putBehind_21 : decode cX7_putBehind 21 = .ok (.iload_n 1, 1) := by decide +kernel
theorem dX7_putBehind_22 : decode cX7_putBehind 22 = .ok (.dup2, 1) := by decide +kernel
theorem dX7_putBehind_23 : decode cX7_putBehind 23 = .ok (.iaload, 1) := by decide +kernel
theorem dX7_putBehind_24 : decode cX7_putBehind 24 = .ok (.iconst 1, 1) := by decide +kernel
theorem dX7_putBehind_25 : decode cX7_putBehind 25 = .ok (.iadd, 1) := by decide +kernel
theorem dX7_putBehind_26 : decode cX7_putBehind 26 = .ok (.iastore, 1) := by decide +kernel
theorem dX7_putBehind_27 : decode cX7_putBehind 27 = .ok (.return_, 1) := by decide +kernel
theorem bkX7_putBehind_0 {b : Int} {mem : qm} {Q : Int → qm → Prop}
    {j v s : Int}
    (hs : q_st s)
    (o1 : (0 ≤ j ∧ j < 9))
    {P1 : Int → qm → Prop}
    (l2 : q_Ev yX7_placeOf cX7_placeOf 3 (some .int) 1 0 0 [(2, s), (0, j), (0, (mem (s + 3) j))] (q_sh0, q_rb b, mem) (qK (q_rb b) (P1)))
    (o3 : ∀ (r1 : Int), ∀ (m1 : qm), P1 r1 m1 → q_in32 r1 → (0 ≤ r1 ∧ r1 < 540) ∧ q_in32 ((m1 (s + 3) j) + 1))
    (l4 : ∀ (r1 : Int), ∀ (m1 : qm), P1 r1 m1 → q_in32 r1 → Q 0 (q_up (q_up m1 (s + 1) r1 v) (s + 3) j ((m1 (s + 3) j) + 1))) :
    q_At yX7_putBehind cX7_putBehind 3 none 2 0 0 (qK (q_rb b) Q) 0 [(2, s), (0, j), (0, v)] [] (q_sh0, q_rb b, mem) := by
  refine q_aload_n dX7_putBehind_0 rfl rfl ?_
  refine q_getR (ci := 7) (k := 0) dX7_putBehind_1 rfl (by decide) rfl tw70 (by decide) (qst0 hs) (qsw0 hs) (by have := qst_nn hs; omega) ?_
  refine q_aload_n dX7_putBehind_4 rfl rfl ?_
  refine q_iload_n dX7_putBehind_5 rfl rfl ?_
  refine q_aload_n dX7_putBehind_6 rfl rfl ?_
  refine q_getR (ci := 7) (k := 2) dX7_putBehind_7 rfl (by decide) rfl tw73 (by decide) (qst0 hs) (qsw2 hs) (by have := qst_nn hs; omega) ?_
  refine q_iload_n dX7_putBehind_10 rfl rfl ?_
  refine qx_iald (v := (mem (s + 3) j)) dX7_putBehind_11 (qst3 hs) (o1) rfl ?_
  refine qx_invV (ci := 7) [(0, j), (0, (mem (s + 3) j))] [(0, (mem (s + 3) j)), (0, j), (2, s), (2, (s + 1))] rfl qM_X7_placeOf dX7_putBehind_12 tw498 rfl (qst0 hs) rfl rfl rfl rfl (l2) (fun r1 m1 p1 q1 => ?_)
  refine q_iload_n dX7_putBehind_15 rfl rfl ?_
  refine q_iast dX7_putBehind_16 (qst1 hs) ((o3 r1 m1 p1 q1).1).1 ((o3 r1 m1 p1 q1).1).2 ?_
  refine q_aload_n dX7_putBehind_17 rfl rfl ?_
  refine q_getR (ci := 7) (k := 2) dX7_putBehind_18 rfl (by decide) rfl tw73 (by decide) (qst0 hs) (qsw2 hs) (by have := qst_nn hs; omega) ?_
  refine q_iload_n dX7_putBehind_21 rfl rfl ?_
  refine q_dup2 dX7_putBehind_22 (fun h => by cases h) (fun h => by cases h) ?_
  refine qx_iald (v := (m1 (s + 3) j)) dX7_putBehind_23 (qst3 hs) (o1) (q_up_c (by omega)) ?_
  refine qx_iconst dX7_putBehind_24 rfl rfl ?_
  refine qx_iadd dX7_putBehind_25 (o3 r1 m1 p1 q1).2 ?_
  refine q_iast dX7_putBehind_26 (qst3 hs) ((o1)).1 ((o1)).2 ?_
  exact q_vret dX7_putBehind_27 (qK_i (l4 r1 m1 p1 q1))
theorem dX7_takeOldest_0 : decode cX7_takeOldest 0 = .ok (.aload_n 0, 1) := by decide +kernel
theorem dX7_takeOldest_1 : decode cX7_takeOldest 1 = .ok (.getfield 9, 3) := by decide +kernel
theorem dX7_takeOldest_4 : decode cX7_takeOldest 4 = .ok (.aload_n 0, 1) := by decide +kernel
theorem dX7_takeOldest_5 : decode cX7_takeOldest 5 = .ok (.iload_n 1, 1) := by decide +kernel
theorem dX7_takeOldest_6 : decode cX7_takeOldest 6 = .ok (.iconst 0, 1) := by decide +kernel
theorem dX7_takeOldest_7 : decode cX7_takeOldest 7 = .ok (.invokevirtual 50, 3) := by decide +kernel
theorem dX7_takeOldest_10 : decode cX7_takeOldest 10 = .ok (.iaload, 1) := by decide +kernel
theorem dX7_takeOldest_11 : decode cX7_takeOldest 11 = .ok (.istore_n 2, 1) := by decide +kernel
theorem dX7_takeOldest_12 : decode cX7_takeOldest 12 = .ok (.aload_n 0, 1) := by decide +kernel
theorem dX7_takeOldest_13 : decode cX7_takeOldest 13 = .ok (.getfield 15, 3) := by decide +kernel
theorem dX7_takeOldest_16 : decode cX7_takeOldest 16 = .ok (.iload_n 1, 1) := by decide +kernel
theorem dX7_takeOldest_17 : decode cX7_takeOldest 17 = .ok (.aload_n 0, 1) := by decide +kernel
theorem dX7_takeOldest_18 : decode cX7_takeOldest 18 = .ok (.getfield 15, 3) := by decide +kernel
theorem dX7_takeOldest_21 : decode cX7_takeOldest 21 = .ok (.iload_n 1, 1) := by decide +kernel
theorem dX7_takeOldest_22 : decode cX7_takeOldest 22 = .ok (.iaload, 1) := by decide +kernel
theorem dX7_takeOldest_23 : decode cX7_takeOldest 23 = .ok (.iconst 1, 1) := by decide +kernel
theorem dX7_takeOldest_24 : decode cX7_takeOldest 24 = .ok (.iadd, 1) := by decide +kernel
theorem dX7_takeOldest_25 : decode cX7_takeOldest 25 = .ok (.bipush 60, 2) := by decide +kernel
theorem dX7_takeOldest_27 : decode cX7_takeOldest 27 = .ok (.irem, 1) := by decide +kernel
theorem dX7_takeOldest_28 : decode cX7_takeOldest 28 = .ok (.iastore, 1) := by decide +kernel
theorem dX7_takeOldest_29 : decode cX7_takeOldest 29 = .ok (.aload_n 0, 1) := by decide +kernel
theorem dX7_takeOldest_30 : decode cX7_takeOldest 30 = .ok (.getfield 18, 3) := by decide +kernel
theorem dX7_takeOldest_33 : decode cX7_takeOldest 33 = .ok (.iload_n 1, 1) := by decide +kernel
theorem dX7_takeOldest_34 : decode cX7_takeOldest 34 = .ok (.dup2, 1) := by decide +kernel
theorem dX7_takeOldest_35 : decode cX7_takeOldest 35 = .ok (.iaload, 1) := by decide +kernel
theorem dX7_takeOldest_36 : decode cX7_takeOldest 36 = .ok (.iconst 1, 1) := by decide +kernel
theorem dX7_takeOldest_37 : decode cX7_takeOldest 37 = .ok (.isub, 1) := by decide +kernel
theorem dX7_takeOldest_38 : decode cX7_takeOldest 38 = .ok (.iastore, 1) := by decide +kernel
theorem dX7_takeOldest_39 : decode cX7_takeOldest 39 = .ok (.iload_n 2, 1) := by decide +kernel
theorem dX7_takeOldest_40 : decode cX7_takeOldest 40 = .ok (.ireturn, 1) := by decide +kernel
theorem bkX7_takeOldest_0 {b : Int} {mem : qm} {Q : Int → qm → Prop}
    {j s : Int}
    (hs : q_st s)
    {P1 : Int → qm → Prop}
    (l1 : q_Ev yX7_placeOf cX7_placeOf 3 (some .int) 1 0 0 [(2, s), (0, j), (0, 0)] (q_sh0, q_rb b, mem) (qK (q_rb b) (P1)))
    (o2 : ∀ (r1 : Int), ∀ (m1 : qm), P1 r1 m1 → q_in32 r1 → (0 ≤ r1 ∧ r1 < 540) ∧ (0 ≤ j ∧ j < 9) ∧ q_in32 ((m1 (s + 2) j) + 1) ∧ q_in32 ((m1 (s + 3) j) - 1))
    (l3 : ∀ (r1 : Int), ∀ (m1 : qm), P1 r1 m1 → q_in32 r1 → Q (m1 (s + 1) r1) (q_up (q_up m1 (s + 2) j (q_oirem ((m1 (s + 2) j) + 1) 60)) (s + 3) j ((m1 (s + 3) j) - 1))) :
    q_At yX7_takeOldest cX7_takeOldest 3 (some .int) 2 0 0 (qK (q_rb b) Q) 0 [(2, s), (0, j), (4, 0)] [] (q_sh0, q_rb b, mem) := by
  refine q_aload_n dX7_takeOldest_0 rfl rfl ?_
  refine q_getR (ci := 7) (k := 0) dX7_takeOldest_1 rfl (by decide) rfl tw70 (by decide) (qst0 hs) (qsw0 hs) (by have := qst_nn hs; omega) ?_
  refine q_aload_n dX7_takeOldest_4 rfl rfl ?_
  refine q_iload_n dX7_takeOldest_5 rfl rfl ?_
  refine qx_iconst dX7_takeOldest_6 rfl rfl ?_
  refine qx_invV (ci := 7) [(0, j), (0, 0)] [(0, 0), (0, j), (2, s), (2, (s + 1))] rfl qM_X7_placeOf dX7_takeOldest_7 tw498 rfl (qst0 hs) rfl rfl rfl rfl (l1) (fun r1 m1 p1 q1 => ?_)
  refine qx_iald (v := (m1 (s + 1) r1)) dX7_takeOldest_10 (qst1 hs) (o2 r1 m1 p1 q1).1 rfl ?_
  refine qx_istore_n (L' := [(2, s), (0, j), (0, (m1 (s + 1) r1))]) dX7_takeOldest_11 rfl rfl rfl rfl ?_
  refine q_aload_n dX7_takeOldest_12 rfl rfl ?_
  refine q_getR (ci := 7) (k := 1) dX7_takeOldest_13 rfl (by decide) rfl tw71 (by decide) (qst0 hs) (qsw1 hs) (by have := qst_nn hs; omega) ?_
  refine q_iload_n dX7_takeOldest_16 rfl rfl ?_
  refine q_aload_n dX7_takeOldest_17 rfl rfl ?_
  refine q_getR (ci := 7) (k := 1) dX7_takeOldest_18 rfl (by decide) rfl tw71 (by decide) (qst0 hs) (qsw1 hs) (by have := qst_nn hs; omega) ?_
  refine q_iload_n dX7_takeOldest_21 rfl rfl ?_
  refine qx_iald (v := (m1 (s + 2) j)) dX7_takeOldest_22 (qst2 hs) (o2 r1 m1 p1 q1).2.1 rfl ?_
  refine qx_iconst dX7_takeOldest_23 rfl rfl ?_
  refine qx_iadd dX7_takeOldest_24 (o2 r1 m1 p1 q1).2.2.1 ?_
  refine qx_bipush dX7_takeOldest_25 rfl rfl ?_
  refine q_irem dX7_takeOldest_27 (by decide) ?_
  refine q_iast dX7_takeOldest_28 (qst2 hs) ((o2 r1 m1 p1 q1).2.1).1 ((o2 r1 m1 p1 q1).2.1).2 ?_
  refine q_aload_n dX7_takeOldest_29 rfl rfl ?_
  refine q_getR (ci := 7) (k := 2) dX7_takeOldest_30 rfl (by decide) rfl tw73 (by decide) (qst0 hs) (qsw2 hs) (by have := qst_nn hs; omega) ?_
  refine q_iload_n dX7_takeOldest_33 rfl rfl ?_
  refine q_dup2 dX7_takeOldest_34 (fun h => by cases h) (fun h => by cases h) ?_
  refine qx_iald (v := (m1 (s + 3) j)) dX7_takeOldest_35 (qst3 hs) (o2 r1 m1 p1 q1).2.1 (q_up_c (by omega)) ?_
  refine qx_iconst dX7_takeOldest_36 rfl rfl ?_
  refine qx_isub dX7_takeOldest_37 (o2 r1 m1 p1 q1).2.2.2 ?_
  refine q_iast dX7_takeOldest_38 (qst3 hs) ((o2 r1 m1 p1 q1).2.1).1 ((o2 r1 m1 p1 q1).2.1).2 ?_
  refine q_iload_n dX7_takeOldest_39 rfl rfl ?_
  exact q_iret dX7_takeOldest_40 (qK_i (l3 r1 m1 p1 q1))
theorem dX7_dropsFrom_0 : decode cX7_dropsFrom 0 = .ok (.iconst 0, 1) := by decide +kernel
theorem dX7_dropsFrom_1 : decode cX7_dropsFrom 1 = .ok (.istore 4, 2) := by decide +kernel
theorem dX7_dropsFrom_3 : decode cX7_dropsFrom 3 = .ok (.iconst 0, 1) := by decide +kernel
theorem dX7_dropsFrom_4 : decode cX7_dropsFrom 4 = .ok (.istore 5, 2) := by decide +kernel
theorem dX7_dropsFrom_6 : decode cX7_dropsFrom 6 = .ok (.iload 5, 2) := by decide +kernel
theorem dX7_dropsFrom_8 : decode cX7_dropsFrom 8 = .ok (.iload_n 3, 1) := by decide +kernel
theorem dX7_dropsFrom_9 : decode cX7_dropsFrom 9 = .ok (.if_icmp .ge 30, 3) := by decide +kernel
theorem dX7_dropsFrom_12 : decode cX7_dropsFrom 12 = .ok (.iload 4, 2) := by decide +kernel
theorem dX7_dropsFrom_14 : decode cX7_dropsFrom 14 = .ok (.aload_n 0, 1) := by decide +kernel
theorem dX7_dropsFrom_15 : decode cX7_dropsFrom 15 = .ok (.iload_n 2, 1) := by decide +kernel
theorem dX7_dropsFrom_16 : decode cX7_dropsFrom 16 = .ok (.iload 5, 2) := by decide +kernel
theorem dX7_dropsFrom_18 : decode cX7_dropsFrom 18 = .ok (.invokevirtual 54, 3) := by decide +kernel
theorem dX7_dropsFrom_21 : decode cX7_dropsFrom 21 = .ok (.iload_n 1, 1) := by decide +kernel
theorem dX7_dropsFrom_22 : decode cX7_dropsFrom 22 = .ok (.if_icmp .ne 7, 3) := by decide +kernel
theorem dX7_dropsFrom_25 : decode cX7_dropsFrom 25 = .ok (.iconst 1, 1) := by decide +kernel
theorem dX7_dropsFrom_26 : decode cX7_dropsFrom 26 = .ok (.goto 4, 3) := by decide +kernel
theorem dX7_dropsFrom_29 : decode cX7_dropsFrom 29 = .ok (.iconst 0, 1) := by decide +kernel
theorem dX7_dropsFrom_30 : decode cX7_dropsFrom 30 = .ok (.iadd, 1) := by decide +kernel
theorem dX7_dropsFrom_31 : decode cX7_dropsFrom 31 = .ok (.istore 4, 2) := by decide +kernel
theorem dX7_dropsFrom_33 : decode cX7_dropsFrom 33 = .ok (.iinc 5 1, 3) := by decide +kernel
theorem dX7_dropsFrom_36 : decode cX7_dropsFrom 36 = .ok (.goto (-30), 3) := by decide +kernel
theorem dX7_dropsFrom_39 : decode cX7_dropsFrom 39 = .ok (.iload 4, 2) := by decide +kernel
theorem dX7_dropsFrom_41 : decode cX7_dropsFrom 41 = .ok (.ireturn, 1) := by decide +kernel
theorem bkX7_dropsFrom_0 {b : Int} {mem : qm} {Q : Int → qm → Prop}
    {v j w s : Int}
    (hs : q_st s)
    (l1 : q_At yX7_dropsFrom cX7_dropsFrom 6 (some .int) 3 0 0 (qK (q_rb b) Q) 6 [(2, s), (0, v), (0, j), (0, w), (0, 0), (0, 0)] [] (q_sh0, q_rb b, mem)) :
    q_At yX7_dropsFrom cX7_dropsFrom 6 (some .int) 3 0 0 (qK (q_rb b) Q) 0 [(2, s), (0, v), (0, j), (0, w), (4, 0), (4, 0)] [] (q_sh0, q_rb b, mem) := by
  refine qx_iconst dX7_dropsFrom_0 rfl rfl ?_
  refine qx_istore (L' := [(2, s), (0, v), (0, j), (0, w), (0, 0), (4, 0)]) dX7_dropsFrom_1 rfl rfl rfl ?_
  refine qx_iconst dX7_dropsFrom_3 rfl rfl ?_
  refine qx_istore (L' := [(2, s), (0, v), (0, j), (0, w), (0, 0), (0, 0)]) dX7_dropsFrom_4 rfl rfl rfl ?_
  exact l1
theorem bkX7_dropsFrom_6 {b : Int} {mem : qm} {Q : Int → qm → Prop}
    {v j w v4 v5 s : Int}
    (hs : q_st s)
    (l1 : w ≤ v5 → Q v4 mem)
    {P2 : Int → qm → Prop}
    (l2 : v5 < w → q_Ev yX7_originAt cX7_originAt 3 (some .int) 2 0 0 [(2, s), (0, j), (0, v5)] (q_sh0, q_rb b, mem) (qK (q_rb b) (P2)))
    (o3 : v5 < w → ∀ (r2 : Int), ∀ (m2 : qm), P2 r2 m2 → q_in32 r2 → r2 ≠ v → q_in32 (v4 + 0) ∧ q_in32 (v5 + 1))
    (l4 : v5 < w → ∀ (r2 : Int), ∀ (m2 : qm), P2 r2 m2 → q_in32 r2 → r2 ≠ v → q_At yX7_dropsFrom cX7_dropsFrom 6 (some .int) 3 0 0 (qK (q_rb b) Q) 6 [(2, s), (0, v), (0, j), (0, w), (0, (v4 + 0)), (0, (v5 + 1))] [] (q_sh0, q_rb b, m2))
    (o5 : v5 < w → ∀ (r2 : Int), ∀ (m2 : qm), P2 r2 m2 → q_in32 r2 → r2 = v → q_in32 (v4 + 1) ∧ q_in32 (v5 + 1))
    (l6 : v5 < w → ∀ (r2 : Int), ∀ (m2 : qm), P2 r2 m2 → q_in32 r2 → r2 = v → q_At yX7_dropsFrom cX7_dropsFrom 6 (some .int) 3 0 0 (qK (q_rb b) Q) 6 [(2, s), (0, v), (0, j), (0, w), (0, (v4 + 1)), (0, (v5 + 1))] [] (q_sh0, q_rb b, m2)) :
    q_At yX7_dropsFrom cX7_dropsFrom 6 (some .int) 3 0 0 (qK (q_rb b) Q) 6 [(2, s), (0, v), (0, j), (0, w), (0, v4), (0, v5)] [] (q_sh0, q_rb b, mem) := by
  refine q_iload dX7_dropsFrom_6 rfl ?_
  refine q_iload_n dX7_dropsFrom_8 rfl rfl ?_
  refine qx_icmp_ge (tgt := 39) dX7_dropsFrom_9 (by decide) (fun c1 => ?_) (fun c1 => ?_)
  · skip
    refine q_iload dX7_dropsFrom_39 rfl ?_
    exact q_iret dX7_dropsFrom_41 (qK_i (l1 c1))
  · skip
    refine q_iload dX7_dropsFrom_12 rfl ?_
    refine q_aload_n dX7_dropsFrom_14 rfl rfl ?_
    refine q_iload_n dX7_dropsFrom_15 rfl rfl ?_
    refine q_iload dX7_dropsFrom_16 rfl ?_
    refine qx_invV (ci := 7) [(0, j), (0, v5)] [(0, v5), (0, j), (2, s), (0, v4)] rfl qM_X7_originAt dX7_dropsFrom_18 tw973 rfl (qst0 hs) rfl rfl rfl rfl (l2 c1) (fun r2 m2 p2 q2 => ?_)
    refine q_iload_n dX7_dropsFrom_21 rfl rfl ?_
    refine qx_icmp_ne (tgt := 29) dX7_dropsFrom_22 (by decide) (fun c3 => ?_) (fun c3 => ?_)
    · skip
      refine qx_iconst dX7_dropsFrom_29 rfl rfl ?_
      refine qx_iadd dX7_dropsFrom_30 (o3 c1 r2 m2 p2 q2 c3).1 ?_
      refine qx_istore (L' := [(2, s), (0, v), (0, j), (0, w), (0, (v4 + 0)), (0, v5)]) dX7_dropsFrom_31 rfl rfl rfl ?_
      refine qx_iinc (L' := [(2, s), (0, v), (0, j), (0, w), (0, (v4 + 0)), (0, (v5 + 1))]) dX7_dropsFrom_33 rfl rfl rfl (o3 c1 r2 m2 p2 q2 c3).2 rfl ?_
      refine q_goto (tgt := 6) dX7_dropsFrom_36 (by decide) ?_
      exact l4 c1 r2 m2 p2 q2 c3
    · skip
      refine qx_iconst dX7_dropsFrom_25 rfl rfl ?_
      refine q_goto (tgt := 30) dX7_dropsFrom_26 (by decide) ?_
      refine qx_iadd dX7_dropsFrom_30 (o5 c1 r2 m2 p2 q2 c3).1 ?_
      refine qx_istore (L' := [(2, s), (0, v), (0, j), (0, w), (0, (v4 + 1)), (0, v5)]) dX7_dropsFrom_31 rfl rfl rfl ?_
      refine qx_iinc (L' := [(2, s), (0, v), (0, j), (0, w), (0, (v4 + 1)), (0, (v5 + 1))]) dX7_dropsFrom_33 rfl rfl rfl (o5 c1 r2 m2 p2 q2 c3).2 rfl ?_
      refine q_goto (tgt := 6) dX7_dropsFrom_36 (by decide) ?_
      exact l6 c1 r2 m2 p2 q2 c3
theorem dX7_mark_0 : decode cX7_mark 0 = .ok (.iconst 0, 1) := by decide +kernel
theorem dX7_mark_1 : decode cX7_mark 1 = .ok (.istore_n 3, 1) := by decide +kernel
theorem dX7_mark_2 : decode cX7_mark 2 = .ok (.iload_n 3, 1) := by decide +kernel
theorem dX7_mark_3 : decode cX7_mark 3 = .ok (.aload_n 0, 1) := by decide +kernel
theorem dX7_mark_4 : decode cX7_mark 4 = .ok (.getfield 18, 3) := by decide +kernel
theorem dX7_mark_7 : decode cX7_mark 7 = .ok (.iload_n 1, 1) := by decide +kernel
theorem dX7_mark_8 : decode cX7_mark 8 = .ok (.iaload, 1) := by decide +kernel
theorem dX7_mark_9 : decode cX7_mark 9 = .ok (.if_icmp .ge 21, 3) := by decide +kernel
theorem dX7_mark_12 : decode cX7_mark 12 = .ok (.aload_n 0, 1) := by decide +kernel
theorem dX7_mark_13 : decode cX7_mark 13 = .ok (.getfield 9, 3) := by decide +kernel
theorem dX7_mark_16 : decode cX7_mark 16 = .ok (.aload_n 0, 1) := by decide +kernel
theorem dX7_mark_17 : decode cX7_mark 17 = .ok (.iload_n 1, 1) := by decide +kernel
theorem dX7_mark_18 : decode cX7_mark 18 = .ok (.iload_n 3, 1) := by decide +kernel
theorem dX7_mark_19 : decode cX7_mark 19 = .ok (.invokevirtual 50, 3) := by decide +kernel
theorem dX7_mark_22 : decode cX7_mark 22 = .ok (.iload_n 2, 1) := by decide +kernel
theorem dX7_mark_23 : decode cX7_mark 23 = .ok (.iastore, 1) := by decide +kernel
theorem dX7_mark_24 : decode cX7_mark 24 = .ok (.iinc 3 1, 3) := by decide +kernel
theorem dX7_mark_27 : decode cX7_mark 27 = .ok (.goto (-25), 3) := by decide +kernel
theorem dX7_mark_30 : decode cX7_mark 30 = .ok (.return_, 1) := by decide +kernel
theorem bkX7_mark_0 {b : Int} {mem : qm} {Q : Int → qm → Prop}
    {j v s : Int}
    (hs : q_st s)
    (l1 : q_At yX7_mark cX7_mark 4 none 2 0 0 (qK (q_rb b) Q) 2 [(2, s), (0, j), (0, v), (0, 0)] [] (q_sh0, q_rb b, mem)) :
    q_At yX7_mark cX7_mark 4 none 2 0 0 (qK (q_rb b) Q) 0 [(2, s), (0, j), (0, v), (4, 0)] [] (q_sh0, q_rb b, mem) := by
  refine qx_iconst dX7_mark_0 rfl rfl ?_
  refine qx_istore_n (L' := [(2, s), (0, j), (0, v), (0, 0)]) dX7_mark_1 rfl rfl rfl rfl ?_
  exact l1
theorem bkX7_mark_2 {b : Int} {mem : qm} {Q : Int → qm → Prop}
    {j v v3 s : Int}
    (hs : q_st s)
    (o1 : (0 ≤ j ∧ j < 9))
    (l2 : (mem (s + 3) j) ≤ v3 → Q 0 mem)
    {P2 : Int → qm → Prop}
    (l3 : v3 < (mem (s + 3) j) → q_Ev yX7_placeOf cX7_placeOf 3 (some .int) 1 0 0 [(2, s), (0, j), (0, v3)] (q_sh0, q_rb b, mem) (qK (q_rb b) (P2)))
    (o4 : v3 < (mem (s + 3) j) → ∀ (r2 : Int), ∀ (m2 : qm), P2 r2 m2 → q_in32 r2 → (0 ≤ r2 ∧ r2 < 540) ∧ q_in32 (v3 + 1))
    (l5 : v3 < (mem (s + 3) j) → ∀ (r2 : Int), ∀ (m2 : qm), P2 r2 m2 → q_in32 r2 → q_At yX7_mark cX7_mark 4 none 2 0 0 (qK (q_rb b) Q) 2 [(2, s), (0, j), (0, v), (0, (v3 + 1))] [] (q_sh0, q_rb b, (q_up m2 (s + 1) r2 v))) :
    q_At yX7_mark cX7_mark 4 none 2 0 0 (qK (q_rb b) Q) 2 [(2, s), (0, j), (0, v), (0, v3)] [] (q_sh0, q_rb b, mem) := by
  refine q_iload_n dX7_mark_2 rfl rfl ?_
  refine q_aload_n dX7_mark_3 rfl rfl ?_
  refine q_getR (ci := 7) (k := 2) dX7_mark_4 rfl (by decide) rfl tw73 (by decide) (qst0 hs) (qsw2 hs) (by have := qst_nn hs; omega) ?_
  refine q_iload_n dX7_mark_7 rfl rfl ?_
  refine qx_iald (v := (mem (s + 3) j)) dX7_mark_8 (qst3 hs) (o1) rfl ?_
  refine qx_icmp_ge (tgt := 30) dX7_mark_9 (by decide) (fun c1 => ?_) (fun c1 => ?_)
  · skip
    exact q_vret dX7_mark_30 (qK_i (l2 c1))
  · skip
    refine q_aload_n dX7_mark_12 rfl rfl ?_
    refine q_getR (ci := 7) (k := 0) dX7_mark_13 rfl (by decide) rfl tw70 (by decide) (qst0 hs) (qsw0 hs) (by have := qst_nn hs; omega) ?_
    refine q_aload_n dX7_mark_16 rfl rfl ?_
    refine q_iload_n dX7_mark_17 rfl rfl ?_
    refine q_iload_n dX7_mark_18 rfl rfl ?_
    refine qx_invV (ci := 7) [(0, j), (0, v3)] [(0, v3), (0, j), (2, s), (2, (s + 1))] rfl qM_X7_placeOf dX7_mark_19 tw498 rfl (qst0 hs) rfl rfl rfl rfl (l3 c1) (fun r2 m2 p2 q2 => ?_)
    refine q_iload_n dX7_mark_22 rfl rfl ?_
    refine q_iast dX7_mark_23 (qst1 hs) ((o4 c1 r2 m2 p2 q2).1).1 ((o4 c1 r2 m2 p2 q2).1).2 ?_
    refine qx_iinc (L' := [(2, s), (0, j), (0, v), (0, (v3 + 1))]) dX7_mark_24 rfl rfl rfl (o4 c1 r2 m2 p2 q2).2 rfl ?_
    refine q_goto (tgt := 2) dX7_mark_27 (by decide) ?_
    exact l5 c1 r2 m2 p2 q2
theorem dX7_lost_0 : decode cX7_lost 0 = .ok (.iconst 0, 1) := by decide +kernel
theorem dX7_lost_1 : decode cX7_lost 1 = .ok (.istore_n 1, 1) := by decide +kernel
theorem dX7_lost_2 : decode cX7_lost 2 = .ok (.iconst 0, 1) := by decide +kernel
theorem dX7_lost_3 : decode cX7_lost 3 = .ok (.istore_n 2, 1) := by decide +kernel
theorem dX7_lost_4 : decode cX7_lost 4 = .ok (.iload_n 2, 1) := by decide +kernel
theorem dX7_lost_5 : decode cX7_lost 5 = .ok (.bipush 7, 2) := by decide +kernel
theorem dX7_lost_7 : decode cX7_lost 7 = .ok (.if_icmp .ge 18, 3) := by decide +kernel
theorem dX7_lost_10 : decode cX7_lost 10 = .ok (.iload_n 1, 1) := by decide +kernel
theorem dX7_lost_11 : decode cX7_lost 11 = .ok (.aload_n 0, 1) := by decide +kernel
theorem dX7_lost_12 : decode cX7_lost 12 = .ok (.getfield 33, 3) := by decide +kernel
theorem dX7_lost_15 : decode cX7_lost 15 = .ok (.iload_n 2, 1) := by decide +kernel
theorem dX7_lost_16 : decode cX7_lost 16 = .ok (.iaload, 1) := by decide +kernel
theorem dX7_lost_17 : decode cX7_lost 17 = .ok (.iadd, 1) := by decide +kernel
theorem dX7_lost_18 : decode cX7_lost 18 = .ok (.istore_n 1, 1) := by decide +kernel
theorem dX7_lost_19 : decode cX7_lost 19 = .ok (.iinc 2 1, 3) := by decide +kernel
theorem dX7_lost_22 : decode cX7_lost 22 = .ok (.goto (-18), 3) := by decide +kernel
theorem dX7_lost_25 : decode cX7_lost 25 = .ok (.iload_n 1, 1) := by decide +kernel
theorem dX7_lost_26 : decode cX7_lost 26 = .ok (.ireturn, 1) := by decide +kernel
theorem bkX7_lost_0 {b : Int} {mem : qm} {Q : Int → qm → Prop}
    {s : Int}
    (hs : q_st s)
    (l1 : q_At yX7_lost cX7_lost 3 (some .int) 1 0 0 (qK (q_rb b) Q) 4 [(2, s), (0, 0), (0, 0)] [] (q_sh0, q_rb b, mem)) :
    q_At yX7_lost cX7_lost 3 (some .int) 1 0 0 (qK (q_rb b) Q) 0 [(2, s), (4, 0), (4, 0)] [] (q_sh0, q_rb b, mem) := by
  refine qx_iconst dX7_lost_0 rfl rfl ?_
  refine qx_istore_n (L' := [(2, s), (0, 0), (4, 0)]) dX7_lost_1 rfl rfl rfl rfl ?_
  refine qx_iconst dX7_lost_2 rfl rfl ?_
  refine qx_istore_n (L' := [(2, s), (0, 0), (0, 0)]) dX7_lost_3 rfl rfl rfl rfl ?_
  exact l1
theorem bkX7_lost_4 {b : Int} {mem : qm} {Q : Int → qm → Prop}
    {v1 v2 s : Int}
    (hs : q_st s)
    (l1 : 7 ≤ v2 → Q v1 mem)
    (o2 : v2 < 7 → (0 ≤ v2 ∧ v2 < 7) ∧ q_in32 (v1 + (mem (s + 8) v2)) ∧ q_in32 (v2 + 1))
    (l3 : v2 < 7 → q_At yX7_lost cX7_lost 3 (some .int) 1 0 0 (qK (q_rb b) Q) 4 [(2, s), (0, (v1 + (mem (s + 8) v2))), (0, (v2 + 1))] [] (q_sh0, q_rb b, mem)) :
    q_At yX7_lost cX7_lost 3 (some .int) 1 0 0 (qK (q_rb b) Q) 4 [(2, s), (0, v1), (0, v2)] [] (q_sh0, q_rb b, mem) := by
  refine q_iload_n dX7_lost_4 rfl rfl ?_
  refine qx_bipush dX7_lost_5 rfl rfl ?_
  refine qx_icmp_ge (tgt := 25) dX7_lost_7 (by decide) (fun c1 => ?_) (fun c1 => ?_)
  · skip
    refine q_iload_n dX7_lost_25 rfl rfl ?_
    exact q_iret dX7_lost_26 (qK_i (l1 c1))
  · skip
    refine q_iload_n dX7_lost_10 rfl rfl ?_
    refine q_aload_n dX7_lost_11 rfl rfl ?_
    refine q_getR (ci := 7) (k := 7) dX7_lost_12 rfl (by decide) rfl tw98 (by decide) (qst0 hs) (qsw7 hs) (by have := qst_nn hs; omega) ?_
    refine q_iload_n dX7_lost_15 rfl rfl ?_
    refine qx_iald (v := (mem (s + 8) v2)) dX7_lost_16 (qst8 hs) (o2 c1).1 rfl ?_
    refine qx_iadd dX7_lost_17 (o2 c1).2.1 ?_
    refine qx_istore_n (L' := [(2, s), (0, (v1 + (mem (s + 8) v2))), (0, v2)]) dX7_lost_18 rfl rfl rfl rfl ?_
    refine qx_iinc (L' := [(2, s), (0, (v1 + (mem (s + 8) v2))), (0, (v2 + 1))]) dX7_lost_19 rfl rfl rfl (o2 c1).2.2 rfl ?_
    refine q_goto (tgt := 4) dX7_lost_22 (by decide) ?_
    exact l3 c1
theorem dX7_owedBy_0 : decode cX7_owedBy 0 = .ok (.iconst 0, 1) := by decide +kernel
theorem dX7_owedBy_1 : decode cX7_owedBy 1 = .ok (.istore_n 2, 1) := by decide +kernel
theorem dX7_owedBy_2 : decode cX7_owedBy 2 = .ok (.iconst 0, 1) := by decide +kernel
theorem dX7_owedBy_3 : decode cX7_owedBy 3 = .ok (.istore_n 3, 1) := by decide +kernel
theorem dX7_owedBy_4 : decode cX7_owedBy 4 = .ok (.iload_n 3, 1) := by decide +kernel
theorem dX7_owedBy_5 : decode cX7_owedBy 5 = .ok (.bipush 6, 2) := by decide +kernel
theorem dX7_owedBy_7 : decode cX7_owedBy 7 = .ok (.if_icmp .ge 23, 3) := by decide +kernel
theorem dX7_owedBy_10 : decode cX7_owedBy 10 = .ok (.iload_n 2, 1) := by decide +kernel
theorem dX7_owedBy_11 : decode cX7_owedBy 11 = .ok (.aload_n 0, 1) := by decide +kernel
theorem dX7_owedBy_12 : decode cX7_owedBy 12 = .ok (.getfield 30, 3) := by decide +kernel
theorem dX7_owedBy_15 : decode cX7_owedBy 15 = .ok (.iload_n 1, 1) := by decide +kernel
theorem dX7_owedBy_16 : decode cX7_owedBy 16 = .ok (.bipush 6, 2) := by decide +kernel
theorem dX7_owedBy_18 : decode cX7_owedBy 18 = .ok (.imul, 1) := by decide +kernel
theorem dX7_owedBy_19 : decode cX7_owedBy 19 = .ok (.iload_n 3, 1) := by decide +kernel
theorem dX7_owedBy_20 : decode cX7_owedBy 20 = .ok (.iadd, 1) := by decide +kernel
theorem dX7_owedBy_21 : decode cX7_owedBy 21 = .ok (.iaload, 1) := by decide +kernel
theorem dX7_owedBy_22 : decode cX7_owedBy 22 = .ok (.iadd, 1) := by decide +kernel
theorem dX7_owedBy_23 : decode cX7_owedBy 23 = .ok (.istore_n 2, 1) := by decide +kernel
theorem dX7_owedBy_24 : decode cX7_owedBy 24 = .ok (.iinc 3 1, 3) := by decide +kernel
theorem dX7_owedBy_27 : decode cX7_owedBy 27 = .ok (.goto (-23), 3) := by decide +kernel
theorem dX7_owedBy_30 : decode cX7_owedBy 30 = .ok (.iload_n 2, 1) := by decide +kernel
theorem dX7_owedBy_31 : decode cX7_owedBy 31 = .ok (.ireturn, 1) := by decide +kernel
theorem bkX7_owedBy_0 {b : Int} {mem : qm} {Q : Int → qm → Prop}
    {w s : Int}
    (hs : q_st s)
    (l1 : q_At yX7_owedBy cX7_owedBy 4 (some .int) 1 0 0 (qK (q_rb b) Q) 4 [(2, s), (0, w), (0, 0), (0, 0)] [] (q_sh0, q_rb b, mem)) :
    q_At yX7_owedBy cX7_owedBy 4 (some .int) 1 0 0 (qK (q_rb b) Q) 0 [(2, s), (0, w), (4, 0), (4, 0)] [] (q_sh0, q_rb b, mem) := by
  refine qx_iconst dX7_owedBy_0 rfl rfl ?_
  refine qx_istore_n (L' := [(2, s), (0, w), (0, 0), (4, 0)]) dX7_owedBy_1 rfl rfl rfl rfl ?_
  refine qx_iconst dX7_owedBy_2 rfl rfl ?_
  refine qx_istore_n (L' := [(2, s), (0, w), (0, 0), (0, 0)]) dX7_owedBy_3 rfl rfl rfl rfl ?_
  exact l1
theorem bkX7_owedBy_4 {b : Int} {mem : qm} {Q : Int → qm → Prop}
    {w v2 v3 s : Int}
    (hs : q_st s)
    (l1 : 6 ≤ v3 → Q v2 mem)
    (o2 : v3 < 6 → q_in32 (w * 6) ∧ q_in32 ((w * 6) + v3) ∧ (0 ≤ ((w * 6) + v3) ∧ ((w * 6) + v3) < 36) ∧ q_in32 (v2 + (mem (s + 7) ((w * 6) + v3))) ∧ q_in32 (v3 + 1))
    (l3 : v3 < 6 → q_At yX7_owedBy cX7_owedBy 4 (some .int) 1 0 0 (qK (q_rb b) Q) 4 [(2, s), (0, w), (0, (v2 + (mem (s + 7) ((w * 6) + v3)))), (0, (v3 + 1))] [] (q_sh0, q_rb b, mem)) :
    q_At yX7_owedBy cX7_owedBy 4 (some .int) 1 0 0 (qK (q_rb b) Q) 4 [(2, s), (0, w), (0, v2), (0, v3)] [] (q_sh0, q_rb b, mem) := by
  refine q_iload_n dX7_owedBy_4 rfl rfl ?_
  refine qx_bipush dX7_owedBy_5 rfl rfl ?_
  refine qx_icmp_ge (tgt := 30) dX7_owedBy_7 (by decide) (fun c1 => ?_) (fun c1 => ?_)
  · skip
    refine q_iload_n dX7_owedBy_30 rfl rfl ?_
    exact q_iret dX7_owedBy_31 (qK_i (l1 c1))
  · skip
    refine q_iload_n dX7_owedBy_10 rfl rfl ?_
    refine q_aload_n dX7_owedBy_11 rfl rfl ?_
    refine q_getR (ci := 7) (k := 6) dX7_owedBy_12 rfl (by decide) rfl tw94 (by decide) (qst0 hs) (qsw6 hs) (by have := qst_nn hs; omega) ?_
    refine q_iload_n dX7_owedBy_15 rfl rfl ?_
    refine qx_bipush dX7_owedBy_16 rfl rfl ?_
    refine qx_imul dX7_owedBy_18 (o2 c1).1 ?_
    refine q_iload_n dX7_owedBy_19 rfl rfl ?_
    refine qx_iadd dX7_owedBy_20 (o2 c1).2.1 ?_
    refine qx_iald (v := (mem (s + 7) ((w * 6) + v3))) dX7_owedBy_21 (qst7 hs) (o2 c1).2.2.1 rfl ?_
    refine qx_iadd dX7_owedBy_22 (o2 c1).2.2.2.1 ?_
    refine qx_istore_n (L' := [(2, s), (0, w), (0, (v2 + (mem (s + 7) ((w * 6) + v3)))), (0, v3)]) dX7_owedBy_23 rfl rfl rfl rfl ?_
    refine qx_iinc (L' := [(2, s), (0, w), (0, (v2 + (mem (s + 7) ((w * 6) + v3)))), (0, (v3 + 1))]) dX7_owedBy_24 rfl rfl rfl (o2 c1).2.2.2.2 rfl ?_
    refine q_goto (tgt := 4) dX7_owedBy_27 (by decide) ?_
    exact l3 c1
theorem dX7_owedByAll_0 : decode cX7_owedByAll 0 = .ok (.iconst 0, 1) := by decide +kernel
theorem dX7_owedByAll_1 : decode cX7_owedByAll 1 = .ok (.istore_n 1, 1) := by decide +kernel
theorem dX7_owedByAll_2 : decode cX7_owedByAll 2 = .ok (.iconst 0, 1) := by decide +kernel
theorem dX7_owedByAll_3 : decode cX7_owedByAll 3 = .ok (.istore_n 2, 1) := by decide +kernel
theorem dX7_owedByAll_4 : decode cX7_owedByAll 4 = .ok (.iload_n 2, 1) := by decide +kernel
theorem dX7_owedByAll_5 : decode cX7_owedByAll 5 = .ok (.bipush 6, 2) := by decide +kernel
theorem dX7_owedByAll_7 : decode cX7_owedByAll 7 = .ok (.if_icmp .ge 17, 3) := by decide +kernel
theorem dX7_owedByAll_10 : decode cX7_owedByAll 10 = .ok (.iload_n 1, 1) := by decide +kernel
theorem dX7_owedByAll_11 : decode cX7_owedByAll 11 = .ok (.aload_n 0, 1) := by decide +kernel
theorem dX7_owedByAll_12 : decode cX7_owedByAll 12 = .ok (.iload_n 2, 1) := by decide +kernel
theorem dX7_owedByAll_13 : decode cX7_owedByAll 13 = .ok (.invokevirtual 57, 3) := by decide +kernel
theorem dX7_owedByAll_16 : decode cX7_owedByAll 16 = .ok (.iadd, 1) := by decide +kernel
theorem dX7_owedByAll_17 : decode cX7_owedByAll 17 = .ok (.istore_n 1, 1) := by decide +kernel
theorem dX7_owedByAll_18 : decode cX7_owedByAll 18 = .ok (.iinc 2 1, 3) := by decide +kernel
theorem dX7_owedByAll_21 : decode cX7_owedByAll 21 = .ok (.goto (-17), 3) := by decide +kernel
theorem dX7_owedByAll_24 : decode cX7_owedByAll 24 = .ok (.iload_n 1, 1) := by decide +kernel
theorem dX7_owedByAll_25 : decode cX7_owedByAll 25 = .ok (.ireturn, 1) := by decide +kernel
theorem bkX7_owedByAll_0 {b : Int} {mem : qm} {Q : Int → qm → Prop}
    {s : Int}
    (hs : q_st s)
    (l1 : q_At yX7_owedByAll cX7_owedByAll 3 (some .int) 2 0 0 (qK (q_rb b) Q) 4 [(2, s), (0, 0), (0, 0)] [] (q_sh0, q_rb b, mem)) :
    q_At yX7_owedByAll cX7_owedByAll 3 (some .int) 2 0 0 (qK (q_rb b) Q) 0 [(2, s), (4, 0), (4, 0)] [] (q_sh0, q_rb b, mem) := by
  refine qx_iconst dX7_owedByAll_0 rfl rfl ?_
  refine qx_istore_n (L' := [(2, s), (0, 0), (4, 0)]) dX7_owedByAll_1 rfl rfl rfl rfl ?_
  refine qx_iconst dX7_owedByAll_2 rfl rfl ?_
  refine qx_istore_n (L' := [(2, s), (0, 0), (0, 0)]) dX7_owedByAll_3 rfl rfl rfl rfl ?_
  exact l1
theorem bkX7_owedByAll_4 {b : Int} {mem : qm} {Q : Int → qm → Prop}
    {v1 v2 s : Int}
    (hs : q_st s)
    (l1 : 6 ≤ v2 → Q v1 mem)
    {P2 : Int → qm → Prop}
    (l2 : v2 < 6 → q_Ev yX7_owedBy cX7_owedBy 4 (some .int) 1 0 0 [(2, s), (0, v2)] (q_sh0, q_rb b, mem) (qK (q_rb b) (P2)))
    (o3 : v2 < 6 → ∀ (r2 : Int), ∀ (m2 : qm), P2 r2 m2 → q_in32 r2 → q_in32 (v1 + r2) ∧ q_in32 (v2 + 1))
    (l4 : v2 < 6 → ∀ (r2 : Int), ∀ (m2 : qm), P2 r2 m2 → q_in32 r2 → q_At yX7_owedByAll cX7_owedByAll 3 (some .int) 2 0 0 (qK (q_rb b) Q) 4 [(2, s), (0, (v1 + r2)), (0, (v2 + 1))] [] (q_sh0, q_rb b, m2)) :
    q_At yX7_owedByAll cX7_owedByAll 3 (some .int) 2 0 0 (qK (q_rb b) Q) 4 [(2, s), (0, v1), (0, v2)] [] (q_sh0, q_rb b, mem) := by
  refine q_iload_n dX7_owedByAll_4 rfl rfl ?_
  refine qx_bipush dX7_owedByAll_5 rfl rfl ?_
  refine qx_icmp_ge (tgt := 24) dX7_owedByAll_7 (by decide) (fun c1 => ?_) (fun c1 => ?_)
  · skip
    refine q_iload_n dX7_owedByAll_24 rfl rfl ?_
    exact q_iret dX7_owedByAll_25 (qK_i (l1 c1))
  · skip
    refine q_iload_n dX7_owedByAll_10 rfl rfl ?_
    refine q_aload_n dX7_owedByAll_11 rfl rfl ?_
    refine q_iload_n dX7_owedByAll_12 rfl rfl ?_
    refine qx_invV (ci := 7) [(0, v2)] [(0, v2), (2, s), (0, v1)] rfl qM_X7_owedBy dX7_owedByAll_13 tw728 rfl (qst0 hs) rfl rfl rfl rfl (l2 c1) (fun r2 m2 p2 q2 => ?_)
    refine qx_iadd dX7_owedByAll_16 (o3 c1 r2 m2 p2 q2).1 ?_
    refine qx_istore_n (L' := [(2, s), (0, (v1 + r2)), (0, v2)]) dX7_owedByAll_17 rfl rfl rfl rfl ?_
    refine qx_iinc (L' := [(2, s), (0, (v1 + r2)), (0, (v2 + 1))]) dX7_owedByAll_18 rfl rfl rfl (o3 c1 r2 m2 p2 q2).2 rfl ?_
    refine q_goto (tgt := 4) dX7_owedByAll_21 (by decide) ?_
    exact l4 c1 r2 m2 p2 q2
theorem dX7_setOff_0 : decode cX7_setOff 0 = .ok (.iload_n 1, 1) := by decide +kernel
theorem dX7_setOff_1 : decode cX7_setOff 1 = .ok (.bipush 6, 2) := by decide +kernel
theorem dX7_setOff_3 : decode cX7_setOff 3 = .ok (.imul, 1) := by decide +kernel
theorem dX7_setOff_4 : decode cX7_setOff 4 = .ok (.iload_n 2, 1) := by decide +kernel
theorem dX7_setOff_5 : decode cX7_setOff 5 = .ok (.iadd, 1) := by decide +kernel
theorem dX7_setOff_6 : decode cX7_setOff 6 = .ok (.istore_n 3, 1) := by decide +kernel
theorem dX7_setOff_7 : decode cX7_setOff 7 = .ok (.iload_n 2, 1) := by decide +kernel
theorem dX7_setOff_8 : decode cX7_setOff 8 = .ok (.bipush 6, 2) := by decide +kernel
theorem dX7_setOff_10 : decode cX7_setOff 10 = .ok (.imul, 1) := by decide +kernel
theorem dX7_setOff_11 : decode cX7_setOff 11 = .ok (.iload_n 1, 1) := by decide +kernel
theorem dX7_setOff_12 : decode cX7_setOff 12 = .ok (.iadd, 1) := by decide +kernel
theorem dX7_setOff_13 : decode cX7_setOff 13 = .ok (.istore 4, 2) := by decide +kernel
theorem dX7_setOff_15 : decode cX7_setOff 15 = .ok (.aload_n 0, 1) := by decide +kernel
theorem dX7_setOff_16 : decode cX7_setOff 16 = .ok (.getfield 30, 3) := by decide +kernel
theorem dX7_setOff_19 : decode cX7_setOff 19 = .ok (.iload_n 3, 1) := by decide +kernel
theorem dX7_setOff_20 : decode cX7_setOff 20 = .ok (.iaload, 1) := by decide +kernel
theorem dX7_setOff_21 : decode cX7_setOff 21 = .ok (.aload_n 0, 1) := by decide +kernel
theorem dX7_setOff_22 : decode cX7_setOff 22 = .ok (.getfield 30, 3) := by decide +kernel
theorem dX7_setOff_25 : decode cX7_setOff 25 = .ok (.iload 4, 2) := by decide +kernel
theorem dX7_setOff_27 : decode cX7_setOff 27 = .ok (.iaload, 1) := by decide +kernel
theorem dX7_setOff_28 : decode cX7_setOff 28 = .ok (.invokestatic 61, 3) := by decide +kernel
theorem dX7_setOff_31 : decode cX7_setOff 31 = .ok (.istore 5, 2) := by decide +kernel
theorem dX7_setOff_33 : decode cX7_setOff 33 = .ok (.aload_n 0, 1) := by decide +kernel
theorem dX7_setOff_34 : decode cX7_setOff 34 = .ok (.getfield 30, 3) := by decide +kernel
theorem dX7_setOff_37 : decode cX7_setOff 37 = .ok (.iload_n 3, 1) := by decide +kernel
theorem dX7_setOff_38 : decode cX7_setOff 38 = .ok (.dup2, 1) := by decide +kernel
theorem dX7_setOff_39 : decode cX7_setOff 39 = .ok (.iaload, 1) := by decide +kernel
theorem dX7_setOff_40 : decode cX7_setOff 40 = .ok (.iload 5, 2) := by decide +kernel
theorem dX7_setOff_42 : decode cX7_setOff 42 = .ok (.isub, 1) := by decide +kernel
theorem dX7_setOff_43 : decode cX7_setOff 43 = .ok (.iastore, 1) := by decide +kernel
theorem dX7_setOff_44 : decode cX7_setOff 44 = .ok (.aload_n 0, 1) := by decide +kernel
theorem dX7_setOff_45 : decode cX7_setOff 45 = .ok (.getfield 30, 3) := by decide +kernel
theorem dX7_setOff_48 : decode cX7_setOff 48 = .ok (.iload 4, 2) := by decide +kernel
theorem dX7_setOff_50 : decode cX7_setOff 50 = .ok (.dup2, 1) := by decide +kernel
theorem dX7_setOff_51 : decode cX7_setOff 51 = .ok (.iaload, 1) := by decide +kernel
theorem dX7_setOff_52 : decode cX7_setOff 52 = .ok (.iload 5, 2) := by decide +kernel
theorem dX7_setOff_54 : decode cX7_setOff 54 = .ok (.isub, 1) := by decide +kernel
theorem dX7_setOff_55 : decode cX7_setOff 55 = .ok (.iastore, 1) := by decide +kernel
theorem dX7_setOff_56 : decode cX7_setOff 56 = .ok (.return_, 1) := by decide +kernel
theorem bkX7_setOff_0 {b : Int} {mem : qm} {Q : Int → qm → Prop}
    {x y s : Int}
    (hs : q_st s)
    (o1 : q_in32 (x * 6) ∧ q_in32 ((x * 6) + y) ∧ q_in32 (y * 6) ∧ q_in32 ((y * 6) + x) ∧ (0 ≤ ((x * 6) + y) ∧ ((x * 6) + y) < 36) ∧ (0 ≤ ((y * 6) + x) ∧ ((y * 6) + x) < 36) ∧ q_in32 ((mem (s + 7) ((x * 6) + y)) - (min (mem (s + 7) ((x * 6) + y)) (mem (s + 7) ((y * 6) + x)))) ∧ q_in32 (((q_up mem (s + 7) ((x * 6) + y) ((mem (s + 7) ((x * 6) + y)) - (min (mem (s + 7) ((x * 6) + y)) (mem (s + 7) ((y * 6) + x))))) (s + 7) ((y * 6) + x)) - (min (mem (s + 7) ((x * 6) + y)) (mem (s + 7) ((y * 6) + x)))))
    (l2 : Q 0 (q_up (q_up mem (s + 7) ((x * 6) + y) ((mem (s + 7) ((x * 6) + y)) - (min (mem (s + 7) ((x * 6) + y)) (mem (s + 7) ((y * 6) + x))))) (s + 7) ((y * 6) + x) (((q_up mem (s + 7) ((x * 6) + y) ((mem (s + 7) ((x * 6) + y)) - (min (mem (s + 7) ((x * 6) + y)) (mem (s + 7) ((y * 6) + x))))) (s + 7) ((y * 6) + x)) - (min (mem (s + 7) ((x * 6) + y)) (mem (s + 7) ((y * 6) + x)))))) :
    q_At yX7_setOff cX7_setOff 6 none 1 0 0 (qK (q_rb b) Q) 0 [(2, s), (0, x), (0, y), (4, 0), (4, 0), (4, 0)] [] (q_sh0, q_rb b, mem) := by
  refine q_iload_n dX7_setOff_0 rfl rfl ?_
  refine qx_bipush dX7_setOff_1 rfl rfl ?_
  refine qx_imul dX7_setOff_3 (o1).1 ?_
  refine q_iload_n dX7_setOff_4 rfl rfl ?_
  refine qx_iadd dX7_setOff_5 (o1).2.1 ?_
  refine qx_istore_n (L' := [(2, s), (0, x), (0, y), (0, ((x * 6) + y)), (4, 0), (4, 0)]) dX7_setOff_6 rfl rfl rfl rfl ?_
  refine q_iload_n dX7_setOff_7 rfl rfl ?_
  refine qx_bipush dX7_setOff_8 rfl rfl ?_
  refine qx_imul dX7_setOff_10 (o1).2.2.1 ?_
  refine q_iload_n dX7_setOff_11 rfl rfl ?_
  refine qx_iadd dX7_setOff_12 (o1).2.2.2.1 ?_
  refine qx_istore (L' := [(2, s), (0, x), (0, y), (0, ((x * 6) + y)), (0, ((y * 6) + x)), (4, 0)]) dX7_setOff_13 rfl rfl rfl ?_
  refine q_aload_n dX7_setOff_15 rfl rfl ?_
  refine q_getR (ci := 7) (k := 6) dX7_setOff_16 rfl (by decide) rfl tw94 (by decide) (qst0 hs) (qsw6 hs) (by have := qst_nn hs; omega) ?_
  refine q_iload_n dX7_setOff_19 rfl rfl ?_
  refine qx_iald (v := (mem (s + 7) ((x * 6) + y))) dX7_setOff_20 (qst7 hs) (o1).2.2.2.2.1 rfl ?_
  refine q_aload_n dX7_setOff_21 rfl rfl ?_
  refine q_getR (ci := 7) (k := 6) dX7_setOff_22 rfl (by decide) rfl tw94 (by decide) (qst0 hs) (qsw6 hs) (by have := qst_nn hs; omega) ?_
  refine q_iload dX7_setOff_25 rfl ?_
  refine qx_iald (v := (mem (s + 7) ((y * 6) + x))) dX7_setOff_27 (qst7 hs) (o1).2.2.2.2.2.1 rfl ?_
  refine q_min dX7_setOff_28 tw954 tw429 tw15 tw430 (by decide) (Nat.le_of_ble_eq_true rfl) ?_
  refine qx_istore (L' := [(2, s), (0, x), (0, y), (0, ((x * 6) + y)), (0, ((y * 6) + x)), (0, (min (mem (s + 7) ((x * 6) + y)) (mem (s + 7) ((y * 6) + x))))]) dX7_setOff_31 rfl rfl rfl ?_
  refine q_aload_n dX7_setOff_33 rfl rfl ?_
  refine q_getR (ci := 7) (k := 6) dX7_setOff_34 rfl (by decide) rfl tw94 (by decide) (qst0 hs) (qsw6 hs) (by have := qst_nn hs; omega) ?_
  refine q_iload_n dX7_setOff_37 rfl rfl ?_
  refine q_dup2 dX7_setOff_38 (fun h => by cases h) (fun h => by cases h) ?_
  refine qx_iald (v := (mem (s + 7) ((x * 6) + y))) dX7_setOff_39 (qst7 hs) (o1).2.2.2.2.1 rfl ?_
  refine q_iload dX7_setOff_40 rfl ?_
  refine qx_isub dX7_setOff_42 (o1).2.2.2.2.2.2.1 ?_
  refine q_iast dX7_setOff_43 (qst7 hs) ((o1).2.2.2.2.1).1 ((o1).2.2.2.2.1).2 ?_
  refine q_aload_n dX7_setOff_44 rfl rfl ?_
  refine q_getR (ci := 7) (k := 6) dX7_setOff_45 rfl (by decide) rfl tw94 (by decide) (qst0 hs) (qsw6 hs) (by have := qst_nn hs; omega) ?_
  refine q_iload dX7_setOff_48 rfl ?_
  refine q_dup2 dX7_setOff_50 (fun h => by cases h) (fun h => by cases h) ?_
  refine qx_iald (v := ((q_up mem (s + 7) ((x * 6) + y) ((mem (s + 7) ((x * 6) + y)) - (min (mem (s + 7) ((x * 6) + y)) (mem (s + 7) ((y * 6) + x))))) (s + 7) ((y * 6) + x))) dX7_setOff_51 (qst7 hs) (o1).2.2.2.2.2.1 rfl ?_
  refine q_iload dX7_setOff_52 rfl ?_
  refine qx_isub dX7_setOff_54 (o1).2.2.2.2.2.2.2 ?_
  refine q_iast dX7_setOff_55 (qst7 hs) ((o1).2.2.2.2.2.1).1 ((o1).2.2.2.2.2.1).2 ?_
  exact q_vret dX7_setOff_56 (qK_i (l2))
theorem dX7_passOn_0 : decode cX7_passOn 0 = .ok (.aload_n 0, 1) := by decide +kernel
theorem dX7_passOn_1 : decode cX7_passOn 1 = .ok (.getfield 30, 3) := by decide +kernel
theorem dX7_passOn_4 : decode cX7_passOn 4 = .ok (.iload_n 1, 1) := by decide +kernel
theorem dX7_passOn_5 : decode cX7_passOn 5 = .ok (.bipush 6, 2) := by decide +kernel
theorem dX7_passOn_7 : decode cX7_passOn 7 = .ok (.imul, 1) := by decide +kernel
theorem dX7_passOn_8 : decode cX7_passOn 8 = .ok (.iload_n 2, 1) := by decide +kernel
theorem dX7_passOn_9 : decode cX7_passOn 9 = .ok (.iadd, 1) := by decide +kernel
theorem dX7_passOn_10 : decode cX7_passOn 10 = .ok (.iaload, 1) := by decide +kernel
theorem dX7_passOn_11 : decode cX7_passOn 11 = .ok (.aload_n 0, 1) := by decide +kernel
theorem dX7_passOn_12 : decode cX7_passOn 12 = .ok (.getfield 30, 3) := by decide +kernel
theorem dX7_passOn_15 : decode cX7_passOn 15 = .ok (.iload_n 2, 1) := by decide +kernel
theorem dX7_passOn_16 : decode cX7_passOn 16 = .ok (.bipush 6, 2) := by decide +kernel
theorem dX7_passOn_18 : decode cX7_passOn 18 = .ok (.imul, 1) := by decide +kernel
theorem dX7_passOn_19 : decode cX7_passOn 19 = .ok (.iload_n 3, 1) := by decide +kernel
theorem dX7_passOn_20 : decode cX7_passOn 20 = .ok (.iadd, 1) := by decide +kernel
theorem dX7_passOn_21 : decode cX7_passOn 21 = .ok (.iaload, 1) := by decide +kernel
theorem dX7_passOn_22 : decode cX7_passOn 22 = .ok (.invokestatic 61, 3) := by decide +kernel
theorem dX7_passOn_25 : decode cX7_passOn 25 = .ok (.istore 4, 2) := by decide +kernel
theorem dX7_passOn_27 : decode cX7_passOn 27 = .ok (.aload_n 0, 1) := by decide +kernel
theorem dX7_passOn_28 : decode cX7_passOn 28 = .ok (.getfield 30, 3) := by decide +kernel
theorem dX7_passOn_31 : decode cX7_passOn 31 = .ok (.iload_n 1, 1) := by decide +kernel
theorem dX7_passOn_32 : decode cX7_passOn 32 = .ok (.bipush 6, 2) := by decide +kernel
theorem dX7_passOn_34 : decode cX7_passOn 34 = .ok (.imul, 1) := by decide +kernel
theorem dX7_passOn_35 : decode cX7_passOn 35 = .ok (.iload_n 2, 1) := by decide +kernel
theorem dX7_passOn_36 : decode cX7_passOn 36 = .ok (.iadd, 1) := by decide +kernel
theorem dX7_passOn_37 : decode cX7_passOn 37 = .ok (.dup2, 1) := by decide +kernel
theorem dX7_passOn_38 : decode cX7_passOn 38 = .ok (.iaload, 1) := by decide +kernel
theorem dX7_passOn_39 : decode cX7_passOn 39 = .ok (.iload 4, 2) := by decide +kernel
theorem dX7_passOn_41 : decode cX7_passOn 41 = .ok (.isub, 1) := by decide +kernel
theorem dX7_passOn_42 : decode cX7_passOn 42 = .ok (.iastore, 1) := by decide +kernel
theorem dX7_passOn_43 : decode cX7_passOn 43 = .ok (.aload_n 0, 1) := by decide +kernel
theorem dX7_passOn_44 : decode cX7_passOn 44 = .ok (.getfield 30, 3) := by decide +kernel
theorem dX7_passOn_47 : decode cX7_passOn 47 = .ok (.iload_n 2, 1) := by decide +kernel
theorem dX7_passOn_48 : decode cX7_passOn 48 = .ok (.bipush 6, 2) := by decide +kernel
theorem dX7_passOn_50 : decode cX7_passOn 50 = .ok (.imul, 1) := by decide +kernel
theorem dX7_passOn_51 : decode cX7_passOn 51 = .ok (.iload_n 3, 1) := by decide +kernel
theorem dX7_passOn_52 : decode cX7_passOn 52 = .ok (.iadd, 1) := by decide +kernel
theorem dX7_passOn_53 : decode cX7_passOn 53 = .ok (.dup2, 1) := by decide +kernel
theorem dX7_passOn_54 : decode cX7_passOn 54 = .ok (.iaload, 1) := by decide +kernel
theorem dX7_passOn_55 : decode cX7_passOn 55 = .ok (.iload 4, 2) := by decide +kernel
theorem dX7_passOn_57 : decode cX7_passOn 57 = .ok (.isub, 1) := by decide +kernel
theorem dX7_passOn_58 : decode cX7_passOn 58 = .ok (.iastore, 1) := by decide +kernel
theorem dX7_passOn_59 : decode cX7_passOn 59 = .ok (.iload_n 1, 1) := by decide +kernel
theorem dX7_passOn_60 : decode cX7_passOn 60 = .ok (.bipush 6, 2) := by decide +kernel
theorem dX7_passOn_62 : decode cX7_passOn 62 = .ok (.imul, 1) := by decide +kernel
theorem dX7_passOn_63 : decode cX7_passOn 63 = .ok (.iload_n 3, 1) := by decide +kernel
theorem dX7_passOn_64 : decode cX7_passOn 64 = .ok (.iadd, 1) := by decide +kernel
theorem dX7_passOn_65 : decode cX7_passOn 65 = .ok (.istore 5, 2) := by decide +kernel
theorem dX7_passOn_67 : decode cX7_passOn 67 = .ok (.aload_n 0, 1) := by decide +kernel
theorem dX7_passOn_68 : decode cX7_passOn 68 = .ok (.getfield 30, 3) := by decide +kernel
theorem dX7_passOn_71 : decode cX7_passOn 71 = .ok (.iload 5, 2) := by decide +kernel
theorem dX7_passOn_73 : decode cX7_passOn 73 = .ok (.sipush 999, 3) := by decide +kernel
theorem dX7_passOn_76 : decode cX7_passOn 76 = .ok (.aload_n 0, 1) := by decide +kernel
theorem dX7_passOn_77 : decode cX7_passOn 77 = .ok (.getfield 30, 3) := by decide +kernel
theorem dX7_passOn_80 : decode cX7_passOn 80 = .ok (.iload 5, 2) := by decide +kernel
theorem dX7_passOn_82 : decode cX7_passOn 82 = .ok (.iaload, 1) := by decide +kernel
theorem dX7_passOn_83 : decode cX7_passOn 83 = .ok (.iload 4, 2) := by decide +kernel
theorem dX7_passOn_85 : decode cX7_passOn 85 = .ok (.iadd, 1) := by decide +kernel
theorem dX7_passOn_86 : decode cX7_passOn 86 = .ok (.invokestatic 61, 3) := by decide +kernel
theorem dX7_passOn_89 : decode cX7_passOn 89 = .ok (.iastore, 1) := by decide +kernel
theorem dX7_passOn_90 : decode cX7_passOn 90 = .ok (.aload_n 0, 1) := by decide +kernel
theorem dX7_passOn_91 : decode cX7_passOn 91 = .ok (.iload_n 1, 1) := by decide +kernel
theorem dX7_passOn_92 : decode cX7_passOn 92 = .ok (.iload_n 3, 1) := by decide +kernel
theorem dX7_passOn_93 : decode cX7_passOn 93 = .ok (.invokevirtual 66, 3) := by decide +kernel
theorem dX7_passOn_96 : decode cX7_passOn 96 = .ok (.return_, 1) := by decide +kernel
theorem bkX7_passOn_0 {b : Int} {mem : qm} {Q : Int → qm → Prop}
    {x y z s : Int}
    (hs : q_st s)
    (o1 : q_in32 (x * 6) ∧ q_in32 ((x * 6) + y) ∧ (0 ≤ ((x * 6) + y) ∧ ((x * 6) + y) < 36) ∧ q_in32 (y * 6) ∧ q_in32 ((y * 6) + z) ∧ (0 ≤ ((y * 6) + z) ∧ ((y * 6) + z) < 36) ∧ q_in32 ((mem (s + 7) ((x * 6) + y)) - (min (mem (s + 7) ((x * 6) + y)) (mem (s + 7) ((y * 6) + z)))) ∧ q_in32 (((q_up mem (s + 7) ((x * 6) + y) ((mem (s + 7) ((x * 6) + y)) - (min (mem (s + 7) ((x * 6) + y)) (mem (s + 7) ((y * 6) + z))))) (s + 7) ((y * 6) + z)) - (min (mem (s + 7) ((x * 6) + y)) (mem (s + 7) ((y * 6) + z)))) ∧ q_in32 ((x * 6) + z) ∧ (0 ≤ ((x * 6) + z) ∧ ((x * 6) + z) < 36) ∧ q_in32 (((q_up (q_up mem (s + 7) ((x * 6) + y) ((mem (s + 7) ((x * 6) + y)) - (min (mem (s + 7) ((x * 6) + y)) (mem (s + 7) ((y * 6) + z))))) (s + 7) ((y * 6) + z) (((q_up mem (s + 7) ((x * 6) + y) ((mem (s + 7) ((x * 6) + y)) - (min (mem (s + 7) ((x * 6) + y)) (mem (s + 7) ((y * 6) + z))))) (s + 7) ((y * 6) + z)) - (min (mem (s + 7) ((x * 6) + y)) (mem (s + 7) ((y * 6) + z))))) (s + 7) ((x * 6) + z)) + (min (mem (s + 7) ((x * 6) + y)) (mem (s + 7) ((y * 6) + z)))))
    {P1 : Int → qm → Prop}
    (l2 : q_Ev yX7_setOff cX7_setOff 6 none 1 0 0 [(2, s), (0, x), (0, z)] (q_sh0, q_rb b, (q_up (q_up (q_up mem (s + 7) ((x * 6) + y) ((mem (s + 7) ((x * 6) + y)) - (min (mem (s + 7) ((x * 6) + y)) (mem (s + 7) ((y * 6) + z))))) (s + 7) ((y * 6) + z) (((q_up mem (s + 7) ((x * 6) + y) ((mem (s + 7) ((x * 6) + y)) - (min (mem (s + 7) ((x * 6) + y)) (mem (s + 7) ((y * 6) + z))))) (s + 7) ((y * 6) + z)) - (min (mem (s + 7) ((x * 6) + y)) (mem (s + 7) ((y * 6) + z))))) (s + 7) ((x * 6) + z) (min 999 (((q_up (q_up mem (s + 7) ((x * 6) + y) ((mem (s + 7) ((x * 6) + y)) - (min (mem (s + 7) ((x * 6) + y)) (mem (s + 7) ((y * 6) + z))))) (s + 7) ((y * 6) + z) (((q_up mem (s + 7) ((x * 6) + y) ((mem (s + 7) ((x * 6) + y)) - (min (mem (s + 7) ((x * 6) + y)) (mem (s + 7) ((y * 6) + z))))) (s + 7) ((y * 6) + z)) - (min (mem (s + 7) ((x * 6) + y)) (mem (s + 7) ((y * 6) + z))))) (s + 7) ((x * 6) + z)) + (min (mem (s + 7) ((x * 6) + y)) (mem (s + 7) ((y * 6) + z))))))) (qK (q_rb b) (P1)))
    (l3 : ∀ (r1 : Int), ∀ (m1 : qm), P1 r1 m1 → q_in32 r1 → Q 0 m1) :
    q_At yX7_passOn cX7_passOn 6 none 2 0 0 (qK (q_rb b) Q) 0 [(2, s), (0, x), (0, y), (0, z), (4, 0), (4, 0)] [] (q_sh0, q_rb b, mem) := by
  refine q_aload_n dX7_passOn_0 rfl rfl ?_
  refine q_getR (ci := 7) (k := 6) dX7_passOn_1 rfl (by decide) rfl tw94 (by decide) (qst0 hs) (qsw6 hs) (by have := qst_nn hs; omega) ?_
  refine q_iload_n dX7_passOn_4 rfl rfl ?_
  refine qx_bipush dX7_passOn_5 rfl rfl ?_
  refine qx_imul dX7_passOn_7 (o1).1 ?_
  refine q_iload_n dX7_passOn_8 rfl rfl ?_
  refine qx_iadd dX7_passOn_9 (o1).2.1 ?_
  refine qx_iald (v := (mem (s + 7) ((x * 6) + y))) dX7_passOn_10 (qst7 hs) (o1).2.2.1 rfl ?_
  refine q_aload_n dX7_passOn_11 rfl rfl ?_
  refine q_getR (ci := 7) (k := 6) dX7_passOn_12 rfl (by decide) rfl tw94 (by decide) (qst0 hs) (qsw6 hs) (by have := qst_nn hs; omega) ?_
  refine q_iload_n dX7_passOn_15 rfl rfl ?_
  refine qx_bipush dX7_passOn_16 rfl rfl ?_
  refine qx_imul dX7_passOn_18 (o1).2.2.2.1 ?_
  refine q_iload_n dX7_passOn_19 rfl rfl ?_
  refine qx_iadd dX7_passOn_20 (o1).2.2.2.2.1 ?_
  refine qx_iald (v := (mem (s + 7) ((y * 6) + z))) dX7_passOn_21 (qst7 hs) (o1).2.2.2.2.2.1 rfl ?_
  refine q_min dX7_passOn_22 tw954 tw429 tw15 tw430 (by decide) (Nat.le_of_ble_eq_true rfl) ?_
  refine qx_istore (L' := [(2, s), (0, x), (0, y), (0, z), (0, (min (mem (s + 7) ((x * 6) + y)) (mem (s + 7) ((y * 6) + z)))), (4, 0)]) dX7_passOn_25 rfl rfl rfl ?_
  refine q_aload_n dX7_passOn_27 rfl rfl ?_
  refine q_getR (ci := 7) (k := 6) dX7_passOn_28 rfl (by decide) rfl tw94 (by decide) (qst0 hs) (qsw6 hs) (by have := qst_nn hs; omega) ?_
  refine q_iload_n dX7_passOn_31 rfl rfl ?_
  refine qx_bipush dX7_passOn_32 rfl rfl ?_
  refine qx_imul dX7_passOn_34 (o1).1 ?_
  refine q_iload_n dX7_passOn_35 rfl rfl ?_
  refine qx_iadd dX7_passOn_36 (o1).2.1 ?_
  refine q_dup2 dX7_passOn_37 (fun h => by cases h) (fun h => by cases h) ?_
  refine qx_iald (v := (mem (s + 7) ((x * 6) + y))) dX7_passOn_38 (qst7 hs) (o1).2.2.1 rfl ?_
  refine q_iload dX7_passOn_39 rfl ?_
  refine qx_isub dX7_passOn_41 (o1).2.2.2.2.2.2.1 ?_
  refine q_iast dX7_passOn_42 (qst7 hs) ((o1).2.2.1).1 ((o1).2.2.1).2 ?_
  refine q_aload_n dX7_passOn_43 rfl rfl ?_
  refine q_getR (ci := 7) (k := 6) dX7_passOn_44 rfl (by decide) rfl tw94 (by decide) (qst0 hs) (qsw6 hs) (by have := qst_nn hs; omega) ?_
  refine q_iload_n dX7_passOn_47 rfl rfl ?_
  refine qx_bipush dX7_passOn_48 rfl rfl ?_
  refine qx_imul dX7_passOn_50 (o1).2.2.2.1 ?_
  refine q_iload_n dX7_passOn_51 rfl rfl ?_
  refine qx_iadd dX7_passOn_52 (o1).2.2.2.2.1 ?_
  refine q_dup2 dX7_passOn_53 (fun h => by cases h) (fun h => by cases h) ?_
  refine qx_iald (v := ((q_up mem (s + 7) ((x * 6) + y) ((mem (s + 7) ((x * 6) + y)) - (min (mem (s + 7) ((x * 6) + y)) (mem (s + 7) ((y * 6) + z))))) (s + 7) ((y * 6) + z))) dX7_passOn_54 (qst7 hs) (o1).2.2.2.2.2.1 rfl ?_
  refine q_iload dX7_passOn_55 rfl ?_
  refine qx_isub dX7_passOn_57 (o1).2.2.2.2.2.2.2.1 ?_
  refine q_iast dX7_passOn_58 (qst7 hs) ((o1).2.2.2.2.2.1).1 ((o1).2.2.2.2.2.1).2 ?_
  refine q_iload_n dX7_passOn_59 rfl rfl ?_
  refine qx_bipush dX7_passOn_60 rfl rfl ?_
  refine qx_imul dX7_passOn_62 (o1).1 ?_
  refine q_iload_n dX7_passOn_63 rfl rfl ?_
  refine qx_iadd dX7_passOn_64 (o1).2.2.2.2.2.2.2.2.1 ?_
  refine qx_istore (L' := [(2, s), (0, x), (0, y), (0, z), (0, (min (mem (s + 7) ((x * 6) + y)) (mem (s + 7) ((y * 6) + z)))), (0, ((x * 6) + z))]) dX7_passOn_65 rfl rfl rfl ?_
  refine q_aload_n dX7_passOn_67 rfl rfl ?_
  refine q_getR (ci := 7) (k := 6) dX7_passOn_68 rfl (by decide) rfl tw94 (by decide) (qst0 hs) (qsw6 hs) (by have := qst_nn hs; omega) ?_
  refine q_iload dX7_passOn_71 rfl ?_
  refine qx_sipush dX7_passOn_73 rfl rfl ?_
  refine q_aload_n dX7_passOn_76 rfl rfl ?_
  refine q_getR (ci := 7) (k := 6) dX7_passOn_77 rfl (by decide) rfl tw94 (by decide) (qst0 hs) (qsw6 hs) (by have := qst_nn hs; omega) ?_
  refine q_iload dX7_passOn_80 rfl ?_
  refine qx_iald (v := ((q_up (q_up mem (s + 7) ((x * 6) + y) ((mem (s + 7) ((x * 6) + y)) - (min (mem (s + 7) ((x * 6) + y)) (mem (s + 7) ((y * 6) + z))))) (s + 7) ((y * 6) + z) (((q_up mem (s + 7) ((x * 6) + y) ((mem (s + 7) ((x * 6) + y)) - (min (mem (s + 7) ((x * 6) + y)) (mem (s + 7) ((y * 6) + z))))) (s + 7) ((y * 6) + z)) - (min (mem (s + 7) ((x * 6) + y)) (mem (s + 7) ((y * 6) + z))))) (s + 7) ((x * 6) + z))) dX7_passOn_82 (qst7 hs) (o1).2.2.2.2.2.2.2.2.2.1 rfl ?_
  refine q_iload dX7_passOn_83 rfl ?_
  refine qx_iadd dX7_passOn_85 (o1).2.2.2.2.2.2.2.2.2.2 ?_
  refine q_min dX7_passOn_86 tw954 tw429 tw15 tw430 (by decide) (Nat.le_of_ble_eq_true rfl) ?_
  refine q_iast dX7_passOn_89 (qst7 hs) ((o1).2.2.2.2.2.2.2.2.2.1).1 ((o1).2.2.2.2.2.2.2.2.2.1).2 ?_
  refine q_aload_n dX7_passOn_90 rfl rfl ?_
  refine q_iload_n dX7_passOn_91 rfl rfl ?_
  refine q_iload_n dX7_passOn_92 rfl rfl ?_
  refine qx_invV (ci := 7) [(0, x), (0, z)] [(0, z), (0, x), (2, s)] rfl qM_X7_setOff dX7_passOn_93 tw964 rfl (qst0 hs) rfl rfl rfl rfl (l2) (fun r1 m1 p1 q1 => ?_)
  exact q_vret dX7_passOn_96 (qK_i (l3 r1 m1 p1 q1))
theorem dX7_copyWater_0 : decode cX7_copyWater 0 = .ok (.aload_n 1, 1) := by decide +kernel
theorem dX7_copyWater_1 : decode cX7_copyWater 1 = .ok (.getfield 9, 3) := by decide +kernel
theorem dX7_copyWater_4 : decode cX7_copyWater 4 = .ok (.iconst 0, 1) := by decide +kernel
theorem dX7_copyWater_5 : decode cX7_copyWater 5 = .ok (.aload_n 0, 1) := by decide +kernel
theorem dX7_copyWater_6 : decode cX7_copyWater 6 = .ok (.getfield 9, 3) := by decide +kernel
theorem dX7_copyWater_9 : decode cX7_copyWater 9 = .ok (.iconst 0, 1) := by decide +kernel
theorem dX7_copyWater_10 : decode cX7_copyWater 10 = .ok (.aload_n 0, 1) := by decide +kernel
theorem dX7_copyWater_11 : decode cX7_copyWater 11 = .ok (.getfield 9, 3) := by decide +kernel
theorem dX7_copyWater_14 : decode cX7_copyWater 14 = .ok (.arraylength, 1) := by decide +kernel
theorem dX7_copyWater_15 : decode cX7_copyWater 15 = .ok (.invokestatic 36, 3) := by decide +kernel
theorem dX7_copyWater_18 : decode cX7_copyWater 18 = .ok (.aload_n 1, 1) := by decide +kernel
theorem dX7_copyWater_19 : decode cX7_copyWater 19 = .ok (.getfield 15, 3) := by decide +kernel
theorem dX7_copyWater_22 : decode cX7_copyWater 22 = .ok (.iconst 0, 1) := by decide +kernel
theorem dX7_copyWater_23 : decode cX7_copyWater 23 = .ok (.aload_n 0, 1) := by decide +kernel
theorem dX7_copyWater_24 : decode cX7_copyWater 24 = .ok (.getfield 15, 3) := by decide +kernel
theorem dX7_copyWater_27 : decode cX7_copyWater 27 = .ok (.iconst 0, 1) := by decide +kernel
theorem dX7_copyWater_28 : decode cX7_copyWater 28 = .ok (.aload_n 0, 1) := by decide +kernel
theorem dX7_copyWater_29 : decode cX7_copyWater 29 = .ok (.getfield 15, 3) := by decide +kernel
theorem dX7_copyWater_32 : decode cX7_copyWater 32 = .ok (.arraylength, 1) := by decide +kernel
theorem dX7_copyWater_33 : decode cX7_copyWater 33 = .ok (.invokestatic 36, 3) := by decide +kernel
theorem dX7_copyWater_36 : decode cX7_copyWater 36 = .ok (.aload_n 1, 1) := by decide +kernel
theorem dX7_copyWater_37 : decode cX7_copyWater 37 = .ok (.getfield 18, 3) := by decide +kernel
theorem dX7_copyWater_40 : decode cX7_copyWater 40 = .ok (.iconst 0, 1) := by decide +kernel
theorem dX7_copyWater_41 : decode cX7_copyWater 41 = .ok (.aload_n 0, 1) := by decide +kernel
theorem dX7_copyWater_42 : decode cX7_copyWater 42 = .ok (.getfield 18, 3) := by decide +kernel
theorem dX7_copyWater_45 : decode cX7_copyWater 45 = .ok (.iconst 0, 1) := by decide +kernel
theorem dX7_copyWater_46 : decode cX7_copyWater 46 = .ok (.aload_n 0, 1) := by decide +kernel
theorem dX7_copyWater_47 : decode cX7_copyWater 47 = .ok (.getfield 18, 3) := by decide +kernel
theorem dX7_copyWater_50 : decode cX7_copyWater 50 = .ok (.arraylength, 1) := by decide +kernel
theorem dX7_copyWater_51 : decode cX7_copyWater 51 = .ok (.invokestatic 36, 3) := by decide +kernel
theorem dX7_copyWater_54 : decode cX7_copyWater 54 = .ok (.aload_n 1, 1) := by decide +kernel
theorem dX7_copyWater_55 : decode cX7_copyWater 55 = .ok (.getfield 21, 3) := by decide +kernel
theorem dX7_copyWater_58 : decode cX7_copyWater 58 = .ok (.iconst 0, 1) := by decide +kernel
theorem dX7_copyWater_59 : decode cX7_copyWater 59 = .ok (.aload_n 0, 1) := by decide +kernel
theorem dX7_copyWater_60 : decode cX7_copyWater 60 = .ok (.getfield 21, 3) := by decide +kernel
theorem dX7_copyWater_63 : decode cX7_copyWater 63 = .ok (.iconst 0, 1) := by decide +kernel
theorem dX7_copyWater_64 : decode cX7_copyWater 64 = .ok (.aload_n 0, 1) := by decide +kernel
theorem dX7_copyWater_65 : decode cX7_copyWater 65 = .ok (.getfield 21, 3) := by decide +kernel
theorem dX7_copyWater_68 : decode cX7_copyWater 68 = .ok (.arraylength, 1) := by decide +kernel
theorem dX7_copyWater_69 : decode cX7_copyWater 69 = .ok (.invokestatic 36, 3) := by decide +kernel
theorem dX7_copyWater_72 : decode cX7_copyWater 72 = .ok (.aload_n 1, 1) := by decide +kernel
theorem dX7_copyWater_73 : decode cX7_copyWater 73 = .ok (.getfield 30, 3) := by decide +kernel
theorem dX7_copyWater_76 : decode cX7_copyWater 76 = .ok (.iconst 0, 1) := by decide +kernel
theorem dX7_copyWater_77 : decode cX7_copyWater 77 = .ok (.aload_n 0, 1) := by decide +kernel
theorem dX7_copyWater_78 : decode cX7_copyWater 78 = .ok (.getfield 30, 3) := by decide +kernel
theorem dX7_copyWater_81 : decode cX7_copyWater 81 = .ok (.iconst 0, 1) := by decide +kernel
theorem dX7_copyWater_82 : decode cX7_copyWater 82 = .ok (.aload_n 0, 1) := by decide +kernel
theorem dX7_copyWater_83 : decode cX7_copyWater 83 = .ok (.getfield 30, 3) := by decide +kernel
theorem dX7_copyWater_86 : decode cX7_copyWater 86 = .ok (.arraylength, 1) := by decide +kernel
theorem dX7_copyWater_87 : decode cX7_copyWater 87 = .ok (.invokestatic 36, 3) := by decide +kernel
theorem dX7_copyWater_90 : decode cX7_copyWater 90 = .ok (.aload_n 1, 1) := by decide +kernel
theorem dX7_copyWater_91 : decode cX7_copyWater 91 = .ok (.getfield 33, 3) := by decide +kernel
theorem dX7_copyWater_94 : decode cX7_copyWater 94 = .ok (.iconst 0, 1) := by decide +kernel
theorem dX7_copyWater_95 : decode cX7_copyWater 95 = .ok (.aload_n 0, 1) := by decide +kernel
theorem dX7_copyWater_96 : decode cX7_copyWater 96 = .ok (.getfield 33, 3) := by decide +kernel
theorem dX7_copyWater_99 : decode cX7_copyWater 99 = .ok (.iconst 0, 1) := by decide +kernel
theorem dX7_copyWater_100 : decode cX7_copyWater 100 = .ok (.aload_n 0, 1) := by decide +kernel
theorem dX7_copyWater_101 : decode cX7_copyWater 101 = .ok (.getfield 33, 3) := by decide +kernel
theorem dX7_copyWater_104 : decode cX7_copyWater 104 = .ok (.arraylength, 1) := by decide +kernel
theorem dX7_copyWater_105 : decode cX7_copyWater 105 = .ok (.invokestatic 36, 3) := by decide +kernel
theorem dX7_copyWater_108 : decode cX7_copyWater 108 = .ok (.aload_n 0, 1) := by decide +kernel
theorem dX7_copyWater_109 : decode cX7_copyWater 109 = .ok (.aload_n 1, 1) := by decide +kernel
theorem dX7_copyWater_110 : decode cX7_copyWater 110 = .ok (.getfield 42, 3) := by decide +kernel
theorem dX7_copyWater_113 : decode cX7_copyWater 113 = .ok (.putfield 42, 3) := by decide +kernel
theorem dX7_copyWater_116 : decode cX7_copyWater 116 = .ok (.aload_n 0, 1) := by decide +kernel
theorem dX7_copyWater_117 : decode cX7_copyWater 117 = .ok (.aload_n 1, 1) := by decide +kernel
theorem dX7_copyWater_118 : decode cX7_copyWater 118 = .ok (.getfield 46, 3) := by decide +kernel
theorem dX7_copyWater_121 : decode cX7_copyWater 121 = .ok (.putfield 46, 3) := by decide +kernel
theorem dX7_copyWater_124 : decode cX7_copyWater 124 = .ok (.return_, 1) := by decide +kernel
theorem bkX7_copyWater_0 {b : Int} {mem : qm} {Q : Int → qm → Prop}
    {s o : Int}
    (hs : q_st s)
    (ho : q_st o)
    (o1 : (((q_up (q_cp (q_cp (q_cp (q_cp (q_cp (q_cp mem (o + 1) 0 (s + 1) 0 540) (o + 2) 0 (s + 2) 0 9) (o + 3) 0 (s + 3) 0 9) (o + 4) 0 (s + 4) 0 9) (o + 7) 0 (s + 7) 0 36) (o + 8) 0 (s + 8) 0 7) s 8 ((q_cp (q_cp (q_cp (q_cp (q_cp (q_cp mem (o + 1) 0 (s + 1) 0 540) (o + 2) 0 (s + 2) 0 9) (o + 3) 0 (s + 3) 0 9) (o + 4) 0 (s + 4) 0 9) (o + 7) 0 (s + 7) 0 36) (o + 8) 0 (s + 8) 0 7) o 8)) o 9) = 0 ∨ ((q_up (q_cp (q_cp (q_cp (q_cp (q_cp (q_cp mem (o + 1) 0 (s + 1) 0 540) (o + 2) 0 (s + 2) 0 9) (o + 3) 0 (s + 3) 0 9) (o + 4) 0 (s + 4) 0 9) (o + 7) 0 (s + 7) 0 36) (o + 8) 0 (s + 8) 0 7) s 8 ((q_cp (q_cp (q_cp (q_cp (q_cp (q_cp mem (o + 1) 0 (s + 1) 0 540) (o + 2) 0 (s + 2) 0 9) (o + 3) 0 (s + 3) 0 9) (o + 4) 0 (s + 4) 0 9) (o + 7) 0 (s + 7) 0 36) (o + 8) 0 (s + 8) 0 7) o 8)) o 9) = 1))
    (l2 : Q 0 (q_up (q_up (q_cp (q_cp (q_cp (q_cp (q_cp (q_cp mem (o + 1) 0 (s + 1) 0 540) (o + 2) 0 (s + 2) 0 9) (o + 3) 0 (s + 3) 0 9) (o + 4) 0 (s + 4) 0 9) (o + 7) 0 (s + 7) 0 36) (o + 8) 0 (s + 8) 0 7) s 8 ((q_cp (q_cp (q_cp (q_cp (q_cp (q_cp mem (o + 1) 0 (s + 1) 0 540) (o + 2) 0 (s + 2) 0 9) (o + 3) 0 (s + 3) 0 9) (o + 4) 0 (s + 4) 0 9) (o + 7) 0 (s + 7) 0 36) (o + 8) 0 (s + 8) 0 7) o 8)) s 9 ((q_up (q_cp (q_cp (q_cp (q_cp (q_cp (q_cp mem (o + 1) 0 (s + 1) 0 540) (o + 2) 0 (s + 2) 0 9) (o + 3) 0 (s + 3) 0 9) (o + 4) 0 (s + 4) 0 9) (o + 7) 0 (s + 7) 0 36) (o + 8) 0 (s + 8) 0 7) s 8 ((q_cp (q_cp (q_cp (q_cp (q_cp (q_cp mem (o + 1) 0 (s + 1) 0 540) (o + 2) 0 (s + 2) 0 9) (o + 3) 0 (s + 3) 0 9) (o + 4) 0 (s + 4) 0 9) (o + 7) 0 (s + 7) 0 36) (o + 8) 0 (s + 8) 0 7) o 8)) o 9))) :
    q_At yX7_copyWater cX7_copyWater 2 none 1 0 0 (qK (q_rb b) Q) 0 [(2, s), (2, o)] [] (q_sh0, q_rb b, mem) := by
  refine q_aload_n dX7_copyWater_0 rfl rfl ?_
  refine q_getR (ci := 7) (k := 0) dX7_copyWater_1 rfl (by decide) rfl tw70 (by decide) (qst0 ho) (qsw0 ho) (by have := qst_nn ho; omega) ?_
  refine qx_iconst dX7_copyWater_4 rfl rfl ?_
  refine q_aload_n dX7_copyWater_5 rfl rfl ?_
  refine q_getR (ci := 7) (k := 0) dX7_copyWater_6 rfl (by decide) rfl tw70 (by decide) (qst0 hs) (qsw0 hs) (by have := qst_nn hs; omega) ?_
  refine qx_iconst dX7_copyWater_9 rfl rfl ?_
  refine q_aload_n dX7_copyWater_10 rfl rfl ?_
  refine q_getR (ci := 7) (k := 0) dX7_copyWater_11 rfl (by decide) rfl tw70 (by decide) (qst0 hs) (qsw0 hs) (by have := qst_nn hs; omega) ?_
  refine q_alen0 dX7_copyWater_14 (qst1 hs) (by decide) ?_
  refine q_copy dX7_copyWater_15 tw614 tw423 tw422 tw14 (by decide) (Nat.le_of_ble_eq_true rfl) (qst1 ho) (qst1 hs) (by decide) (by decide) (by decide) (by decide) (by decide) ?_
  refine q_aload_n dX7_copyWater_18 rfl rfl ?_
  refine q_getR (ci := 7) (k := 1) dX7_copyWater_19 rfl (by decide) rfl tw71 (by decide) (qst0 ho) (qsw1 ho) (by have := qst_nn ho; omega) ?_
  refine qx_iconst dX7_copyWater_22 rfl rfl ?_
  refine q_aload_n dX7_copyWater_23 rfl rfl ?_
  refine q_getR (ci := 7) (k := 1) dX7_copyWater_24 rfl (by decide) rfl tw71 (by decide) (qst0 hs) (qsw1 hs) (by have := qst_nn hs; omega) ?_
  refine qx_iconst dX7_copyWater_27 rfl rfl ?_
  refine q_aload_n dX7_copyWater_28 rfl rfl ?_
  refine q_getR (ci := 7) (k := 1) dX7_copyWater_29 rfl (by decide) rfl tw71 (by decide) (qst0 hs) (qsw1 hs) (by have := qst_nn hs; omega) ?_
  refine q_alen0 dX7_copyWater_32 (qst2 hs) (by decide) ?_
  refine q_copy dX7_copyWater_33 tw614 tw423 tw422 tw14 (by decide) (Nat.le_of_ble_eq_true rfl) (qst2 ho) (qst2 hs) (by decide) (by decide) (by decide) (by decide) (by decide) ?_
  refine q_aload_n dX7_copyWater_36 rfl rfl ?_
  refine q_getR (ci := 7) (k := 2) dX7_copyWater_37 rfl (by decide) rfl tw73 (by decide) (qst0 ho) (qsw2 ho) (by have := qst_nn ho; omega) ?_
  refine qx_iconst dX7_copyWater_40 rfl rfl ?_
  refine q_aload_n dX7_copyWater_41 rfl rfl ?_
  refine q_getR (ci := 7) (k := 2) dX7_copyWater_42 rfl (by decide) rfl tw73 (by decide) (qst0 hs) (qsw2 hs) (by have := qst_nn hs; omega) ?_
  refine qx_iconst dX7_copyWater_45 rfl rfl ?_
  refine q_aload_n dX7_copyWater_46 rfl rfl ?_
  refine q_getR (ci := 7) (k := 2) dX7_copyWater_47 rfl (by decide) rfl tw73 (by decide) (qst0 hs) (qsw2 hs) (by have := qst_nn hs; omega) ?_
  refine q_alen0 dX7_copyWater_50 (qst3 hs) (by decide) ?_
  refine q_copy dX7_copyWater_51 tw614 tw423 tw422 tw14 (by decide) (Nat.le_of_ble_eq_true rfl) (qst3 ho) (qst3 hs) (by decide) (by decide) (by decide) (by decide) (by decide) ?_
  refine q_aload_n dX7_copyWater_54 rfl rfl ?_
  refine q_getR (ci := 7) (k := 3) dX7_copyWater_55 rfl (by decide) rfl tw79 (by decide) (qst0 ho) (qsw3 ho) (by have := qst_nn ho; omega) ?_
  refine qx_iconst dX7_copyWater_58 rfl rfl ?_
  refine q_aload_n dX7_copyWater_59 rfl rfl ?_
  refine q_getR (ci := 7) (k := 3) dX7_copyWater_60 rfl (by decide) rfl tw79 (by decide) (qst0 hs) (qsw3 hs) (by have := qst_nn hs; omega) ?_
  refine qx_iconst dX7_copyWater_63 rfl rfl ?_
  refine q_aload_n dX7_copyWater_64 rfl rfl ?_
  refine q_getR (ci := 7) (k := 3) dX7_copyWater_65 rfl (by decide) rfl tw79 (by decide) (qst0 hs) (qsw3 hs) (by have := qst_nn hs; omega) ?_
  refine q_alen0 dX7_copyWater_68 (qst4 hs) (by decide) ?_
  refine q_copy dX7_copyWater_69 tw614 tw423 tw422 tw14 (by decide) (Nat.le_of_ble_eq_true rfl) (qst4 ho) (qst4 hs) (by decide) (by decide) (by decide) (by decide) (by decide) ?_
  refine q_aload_n dX7_copyWater_72 rfl rfl ?_
  refine q_getR (ci := 7) (k := 6) dX7_copyWater_73 rfl (by decide) rfl tw94 (by decide) (qst0 ho) (qsw6 ho) (by have := qst_nn ho; omega) ?_
  refine qx_iconst dX7_copyWater_76 rfl rfl ?_
  refine q_aload_n dX7_copyWater_77 rfl rfl ?_
  refine q_getR (ci := 7) (k := 6) dX7_copyWater_78 rfl (by decide) rfl tw94 (by decide) (qst0 hs) (qsw6 hs) (by have := qst_nn hs; omega) ?_
  refine qx_iconst dX7_copyWater_81 rfl rfl ?_
  refine q_aload_n dX7_copyWater_82 rfl rfl ?_
  refine q_getR (ci := 7) (k := 6) dX7_copyWater_83 rfl (by decide) rfl tw94 (by decide) (qst0 hs) (qsw6 hs) (by have := qst_nn hs; omega) ?_
  refine q_alen0 dX7_copyWater_86 (qst7 hs) (by decide) ?_
  refine q_copy dX7_copyWater_87 tw614 tw423 tw422 tw14 (by decide) (Nat.le_of_ble_eq_true rfl) (qst7 ho) (qst7 hs) (by decide) (by decide) (by decide) (by decide) (by decide) ?_
  refine q_aload_n dX7_copyWater_90 rfl rfl ?_
  refine q_getR (ci := 7) (k := 7) dX7_copyWater_91 rfl (by decide) rfl tw98 (by decide) (qst0 ho) (qsw7 ho) (by have := qst_nn ho; omega) ?_
  refine qx_iconst dX7_copyWater_94 rfl rfl ?_
  refine q_aload_n dX7_copyWater_95 rfl rfl ?_
  refine q_getR (ci := 7) (k := 7) dX7_copyWater_96 rfl (by decide) rfl tw98 (by decide) (qst0 hs) (qsw7 hs) (by have := qst_nn hs; omega) ?_
  refine qx_iconst dX7_copyWater_99 rfl rfl ?_
  refine q_aload_n dX7_copyWater_100 rfl rfl ?_
  refine q_getR (ci := 7) (k := 7) dX7_copyWater_101 rfl (by decide) rfl tw98 (by decide) (qst0 hs) (qsw7 hs) (by have := qst_nn hs; omega) ?_
  refine q_alen0 dX7_copyWater_104 (qst8 hs) (by decide) ?_
  refine q_copy dX7_copyWater_105 tw614 tw423 tw422 tw14 (by decide) (Nat.le_of_ble_eq_true rfl) (qst8 ho) (qst8 hs) (by decide) (by decide) (by decide) (by decide) (by decide) ?_
  refine q_aload_n dX7_copyWater_108 rfl rfl ?_
  refine q_aload_n dX7_copyWater_109 rfl rfl ?_
  refine qx_getI (ci := 7) (k := 8) (v := ((q_cp (q_cp (q_cp (q_cp (q_cp (q_cp mem (o + 1) 0 (s + 1) 0 540) (o + 2) 0 (s + 2) 0 9) (o + 3) 0 (s + 3) 0 9) (o + 4) 0 (s + 4) 0 9) (o + 7) 0 (s + 7) 0 36) (o + 8) 0 (s + 8) 0 7) o 8)) dX7_copyWater_110 rfl rfl rfl tw102 rfl (qst0 ho) rfl ?_
  refine q_putI (ci := 7) (k := 8) (kI := 8) (ty := .int) dX7_copyWater_113 rfl (by decide) rfl tw102 rfl rfl rfl (fun _ => ⟨rfl, rfl⟩) (qst0 hs) ?_
  refine q_aload_n dX7_copyWater_116 rfl rfl ?_
  refine q_aload_n dX7_copyWater_117 rfl rfl ?_
  refine qx_getI (ci := 7) (k := 9) (v := ((q_up (q_cp (q_cp (q_cp (q_cp (q_cp (q_cp mem (o + 1) 0 (s + 1) 0 540) (o + 2) 0 (s + 2) 0 9) (o + 3) 0 (s + 3) 0 9) (o + 4) 0 (s + 4) 0 9) (o + 7) 0 (s + 7) 0 36) (o + 8) 0 (s + 8) 0 7) s 8 ((q_cp (q_cp (q_cp (q_cp (q_cp (q_cp mem (o + 1) 0 (s + 1) 0 540) (o + 2) 0 (s + 2) 0 9) (o + 3) 0 (s + 3) 0 9) (o + 4) 0 (s + 4) 0 9) (o + 7) 0 (s + 7) 0 36) (o + 8) 0 (s + 8) 0 7) o 8)) o 9)) dX7_copyWater_118 rfl rfl rfl tw105 rfl (qst0 ho) rfl ?_
  refine q_putI (ci := 7) (k := 9) (kI := 9) (ty := .boolean) dX7_copyWater_121 rfl (by decide) rfl tw105 rfl rfl rfl (fun _ => q_bool (o1)) (qst0 hs) ?_
  exact q_vret dX7_copyWater_124 (qK_i (l2))
theorem dX7_copyPipes_0 : decode cX7_copyPipes 0 = .ok (.aload_n 1, 1) := by decide +kernel
theorem dX7_copyPipes_1 : decode cX7_copyPipes 1 = .ok (.getfield 24, 3) := by decide +kernel
theorem dX7_copyPipes_4 : decode cX7_copyPipes 4 = .ok (.iconst 0, 1) := by decide +kernel
theorem dX7_copyPipes_5 : decode cX7_copyPipes 5 = .ok (.aload_n 0, 1) := by decide +kernel
theorem dX7_copyPipes_6 : decode cX7_copyPipes 6 = .ok (.getfield 24, 3) := by decide +kernel
theorem dX7_copyPipes_9 : decode cX7_copyPipes 9 = .ok (.iconst 0, 1) := by decide +kernel
theorem dX7_copyPipes_10 : decode cX7_copyPipes 10 = .ok (.aload_n 0, 1) := by decide +kernel
theorem dX7_copyPipes_11 : decode cX7_copyPipes 11 = .ok (.getfield 24, 3) := by decide +kernel
theorem dX7_copyPipes_14 : decode cX7_copyPipes 14 = .ok (.arraylength, 1) := by decide +kernel
theorem dX7_copyPipes_15 : decode cX7_copyPipes 15 = .ok (.invokestatic 36, 3) := by decide +kernel
theorem dX7_copyPipes_18 : decode cX7_copyPipes 18 = .ok (.aload_n 1, 1) := by decide +kernel
theorem dX7_copyPipes_19 : decode cX7_copyPipes 19 = .ok (.getfield 27, 3) := by decide +kernel
theorem dX7_copyPipes_22 : decode cX7_copyPipes 22 = .ok (.iconst 0, 1) := by decide +kernel
theorem dX7_copyPipes_23 : decode cX7_copyPipes 23 = .ok (.aload_n 0, 1) := by decide +kernel
theorem dX7_copyPipes_24 : decode cX7_copyPipes 24 = .ok (.getfield 27, 3) := by decide +kernel
theorem dX7_copyPipes_27 : decode cX7_copyPipes 27 = .ok (.iconst 0, 1) := by decide +kernel
theorem dX7_copyPipes_28 : decode cX7_copyPipes 28 = .ok (.aload_n 0, 1) := by decide +kernel
theorem dX7_copyPipes_29 : decode cX7_copyPipes 29 = .ok (.getfield 27, 3) := by decide +kernel
theorem dX7_copyPipes_32 : decode cX7_copyPipes 32 = .ok (.arraylength, 1) := by decide +kernel
theorem dX7_copyPipes_33 : decode cX7_copyPipes 33 = .ok (.invokestatic 36, 3) := by decide +kernel
theorem dX7_copyPipes_36 : decode cX7_copyPipes 36 = .ok (.return_, 1) := by decide +kernel
theorem bkX7_copyPipes_0 {b : Int} {mem : qm} {Q : Int → qm → Prop}
    {s o : Int}
    (hs : q_st s)
    (ho : q_st o)
    (l1 : Q 0 (q_cp (q_cp mem (o + 5) 0 (s + 5) 0 9) (o + 6) 0 (s + 6) 0 9)) :
    q_At yX7_copyPipes cX7_copyPipes 2 none 1 0 0 (qK (q_rb b) Q) 0 [(2, s), (2, o)] [] (q_sh0, q_rb b, mem) := by
  refine q_aload_n dX7_copyPipes_0 rfl rfl ?_
  refine q_getR (ci := 7) (k := 4) dX7_copyPipes_1 rfl (by decide) rfl tw84 (by decide) (qst0 ho) (qsw4 ho) (by have := qst_nn ho; omega) ?_
  refine qx_iconst dX7_copyPipes_4 rfl rfl ?_
  refine q_aload_n dX7_copyPipes_5 rfl rfl ?_
  refine q_getR (ci := 7) (k := 4) dX7_copyPipes_6 rfl (by decide) rfl tw84 (by decide) (qst0 hs) (qsw4 hs) (by have := qst_nn hs; omega) ?_
  refine qx_iconst dX7_copyPipes_9 rfl rfl ?_
  refine q_aload_n dX7_copyPipes_10 rfl rfl ?_
  refine q_getR (ci := 7) (k := 4) dX7_copyPipes_11 rfl (by decide) rfl tw84 (by decide) (qst0 hs) (qsw4 hs) (by have := qst_nn hs; omega) ?_
  refine q_alen0 dX7_copyPipes_14 (qst5 hs) (by decide) ?_
  refine q_copy dX7_copyPipes_15 tw614 tw423 tw422 tw14 (by decide) (Nat.le_of_ble_eq_true rfl) (qst5 ho) (qst5 hs) (by decide) (by decide) (by decide) (by decide) (by decide) ?_
  refine q_aload_n dX7_copyPipes_18 rfl rfl ?_
  refine q_getR (ci := 7) (k := 5) dX7_copyPipes_19 rfl (by decide) rfl tw89 (by decide) (qst0 ho) (qsw5 ho) (by have := qst_nn ho; omega) ?_
  refine qx_iconst dX7_copyPipes_22 rfl rfl ?_
  refine q_aload_n dX7_copyPipes_23 rfl rfl ?_
  refine q_getR (ci := 7) (k := 5) dX7_copyPipes_24 rfl (by decide) rfl tw89 (by decide) (qst0 hs) (qsw5 hs) (by have := qst_nn hs; omega) ?_
  refine qx_iconst dX7_copyPipes_27 rfl rfl ?_
  refine q_aload_n dX7_copyPipes_28 rfl rfl ?_
  refine q_getR (ci := 7) (k := 5) dX7_copyPipes_29 rfl (by decide) rfl tw89 (by decide) (qst0 hs) (qsw5 hs) (by have := qst_nn hs; omega) ?_
  refine q_alen0 dX7_copyPipes_32 (qst6 hs) (by decide) ?_
  refine q_copy dX7_copyPipes_33 tw614 tw423 tw422 tw14 (by decide) (Nat.le_of_ble_eq_true rfl) (qst6 ho) (qst6 hs) (by decide) (by decide) (by decide) (by decide) (by decide) ?_
  exact q_vret dX7_copyPipes_36 (qK_i (l1))
theorem dX0_letGo_0 : decode cX0_letGo 0 = .ok (.aload_n 0, 1) := by decide +kernel
theorem dX0_letGo_1 : decode cX0_letGo 1 = .ok (.getfield 15, 3) := by decide +kernel
theorem dX0_letGo_4 : decode cX0_letGo 4 = .ok (.iload_n 2, 1) := by decide +kernel
theorem dX0_letGo_5 : decode cX0_letGo 5 = .ok (.aload_n 1, 1) := by decide +kernel
theorem dX0_letGo_6 : decode cX0_letGo 6 = .ok (.getfield 35, 3) := by decide +kernel
theorem dX0_letGo_9 : decode cX0_letGo 9 = .ok (.iload_n 2, 1) := by decide +kernel
theorem dX0_letGo_10 : decode cX0_letGo 10 = .ok (.iaload, 1) := by decide +kernel
theorem dX0_letGo_11 : decode cX0_letGo 11 = .ok (.ifCond .le 7, 3) := by decide +kernel
theorem dX0_letGo_14 : decode cX0_letGo 14 = .ok (.iconst 0, 1) := by decide +kernel
theorem dX0_letGo_15 : decode cX0_letGo 15 = .ok (.goto 18, 3) := by decide +kernel
theorem dX0_letGo_18 : decode cX0_letGo 18 = .ok (.aload_n 1, 1) := by decide +kernel
theorem dX0_letGo_19 : decode cX0_letGo 19 = .ok (.getfield 53, 3) := by decide +kernel
theorem dX0_letGo_22 : decode cX0_letGo 22 = .ok (.iload_n 2, 1) := by decide +kernel
theorem dX0_letGo_23 : decode cX0_letGo 23 = .ok (.iaload, 1) := by decide +kernel
theorem dX0_letGo_24 : decode cX0_letGo 24 = .ok (.aload_n 1, 1) := by decide +kernel
theorem dX0_letGo_25 : decode cX0_letGo 25 = .ok (.getfield 56, 3) := by decide +kernel
theorem dX0_letGo_28 : decode cX0_letGo 28 = .ok (.iload_n 2, 1) := by decide +kernel
theorem dX0_letGo_29 : decode cX0_letGo 29 = .ok (.iaload, 1) := by decide +kernel
theorem dX0_letGo_30 : decode cX0_letGo 30 = .ok (.invokestatic 59, 3) := by decide +kernel
theorem dX0_letGo_33 : decode cX0_letGo 33 = .ok (.iastore, 1) := by decide +kernel
theorem dX0_letGo_34 : decode cX0_letGo 34 = .ok (.iconst 0, 1) := by decide +kernel
theorem dX0_letGo_35 : decode cX0_letGo 35 = .ok (.istore_n 3, 1) := by decide +kernel
theorem dX0_letGo_36 : decode cX0_letGo 36 = .ok (.iload_n 3, 1) := by decide +kernel
theorem dX0_letGo_37 : decode cX0_letGo 37 = .ok (.aload_n 0, 1) := by decide +kernel
theorem dX0_letGo_38 : decode cX0_letGo 38 = .ok (.getfield 15, 3) := by decide +kernel
theorem dX0_letGo_41 : decode cX0_letGo 41 = .ok (.iload_n 2, 1) := by decide +kernel
theorem dX0_letGo_42 : decode cX0_letGo 42 = .ok (.iaload, 1) := by decide +kernel
theorem dX0_letGo_43 : decode cX0_letGo 43 = .ok (.if_icmp .ge 25, 3) := by decide +kernel
theorem dX0_letGo_46 : decode cX0_letGo 46 = .ok (.aload_n 0, 1) := by decide +kernel
theorem dX0_letGo_47 : decode cX0_letGo 47 = .ok (.getfield 9, 3) := by decide +kernel
theorem dX0_letGo_50 : decode cX0_letGo 50 = .ok (.iload_n 2, 1) := by decide +kernel
theorem dX0_letGo_51 : decode cX0_letGo 51 = .ok (.bipush 9, 2) := by decide +kernel
theorem dX0_letGo_53 : decode cX0_letGo 53 = .ok (.imul, 1) := by decide +kernel
theorem dX0_letGo_54 : decode cX0_letGo 54 = .ok (.iload_n 3, 1) := by decide +kernel
theorem dX0_letGo_55 : decode cX0_letGo 55 = .ok (.iadd, 1) := by decide +kernel
theorem dX0_letGo_56 : decode cX0_letGo 56 = .ok (.aload_n 1, 1) := by decide +kernel
theorem dX0_letGo_57 : decode cX0_letGo 57 = .ok (.iload_n 2, 1) := by decide +kernel
theorem dX0_letGo_58 : decode cX0_letGo 58 = .ok (.invokevirtual 62, 3) := by decide +kernel
theorem dX0_letGo_61 : decode cX0_letGo 61 = .ok (.iastore, 1) := by decide +kernel
theorem dX0_letGo_62 : decode cX0_letGo 62 = .ok (.iinc 3 1, 3) := by decide +kernel
theorem dX0_letGo_65 : decode cX0_letGo 65 = .ok (.goto (-29), 3) := by decide +kernel
theorem dX0_letGo_68 : decode cX0_letGo 68 = .ok (.return_, 1) := by decide +kernel
theorem bkX0_letGo_0 {b : Int} {mem : qm} {Q : Int → qm → Prop}
    {j s : Int}
    (hs : q_st s)
    (o1 : (0 ≤ j ∧ j < 9))
    (l2 : (mem (s + 4) j) ≤ 0 → q_At yX0_letGo cX0_letGo 4 none 3 0 0 (qK (q_rb b) Q) 36 [(2, 23), (2, s), (0, j), (0, 0)] [] (q_sh0, q_rb b, (q_up mem 25 j (min (mem (s + 5) j) (mem (s + 3) j)))))
    (l3 : 0 < (mem (s + 4) j) → q_At yX0_letGo cX0_letGo 4 none 3 0 0 (qK (q_rb b) Q) 36 [(2, 23), (2, s), (0, j), (0, 0)] [] (q_sh0, q_rb b, (q_up mem 25 j 0))) :
    q_At yX0_letGo cX0_letGo 4 none 3 0 0 (qK (q_rb b) Q) 0 [(2, 23), (2, s), (0, j), (4, 0)] [] (q_sh0, q_rb b, mem) := by
  refine q_aload_n dX0_letGo_0 rfl rfl ?_
  refine q_getR (ci := 0) (k := 2) dX0_letGo_1 rfl (by decide) rfl tw136 (by decide) qs23 qw23_2 (by decide) ?_
  refine q_iload_n dX0_letGo_4 rfl rfl ?_
  refine q_aload_n dX0_letGo_5 rfl rfl ?_
  refine q_getR (ci := 7) (k := 3) dX0_letGo_6 rfl (by decide) rfl tw81 (by decide) (qst0 hs) (qsw3 hs) (by have := qst_nn hs; omega) ?_
  refine q_iload_n dX0_letGo_9 rfl rfl ?_
  refine qx_iald (v := (mem (s + 4) j)) dX0_letGo_10 (qst4 hs) (o1) rfl ?_
  refine qx_if_le (tgt := 18) dX0_letGo_11 (by decide) (fun c1 => ?_) (fun c1 => ?_)
  · skip
    refine q_aload_n dX0_letGo_18 rfl rfl ?_
    refine q_getR (ci := 7) (k := 4) dX0_letGo_19 rfl (by decide) rfl tw86 (by decide) (qst0 hs) (qsw4 hs) (by have := qst_nn hs; omega) ?_
    refine q_iload_n dX0_letGo_22 rfl rfl ?_
    refine qx_iald (v := (mem (s + 5) j)) dX0_letGo_23 (qst5 hs) (o1) rfl ?_
    refine q_aload_n dX0_letGo_24 rfl rfl ?_
    refine q_getR (ci := 7) (k := 2) dX0_letGo_25 rfl (by decide) rfl tw75 (by decide) (qst0 hs) (qsw2 hs) (by have := qst_nn hs; omega) ?_
    refine q_iload_n dX0_letGo_28 rfl rfl ?_
    refine qx_iald (v := (mem (s + 3) j)) dX0_letGo_29 (qst3 hs) (o1) rfl ?_
    refine q_min dX0_letGo_30 tw683 tw429 tw15 tw430 (by decide) (Nat.le_of_ble_eq_true rfl) ?_
    refine q_iast dX0_letGo_33 qs25 ((o1)).1 ((o1)).2 ?_
    refine qx_iconst dX0_letGo_34 rfl rfl ?_
    refine qx_istore_n (L' := [(2, 23), (2, s), (0, j), (0, 0)]) dX0_letGo_35 rfl rfl rfl rfl ?_
    exact l2 c1
  · skip
    refine qx_iconst dX0_letGo_14 rfl rfl ?_
    refine q_goto (tgt := 33) dX0_letGo_15 (by decide) ?_
    refine q_iast dX0_letGo_33 qs25 ((o1)).1 ((o1)).2 ?_
    refine qx_iconst dX0_letGo_34 rfl rfl ?_
    refine qx_istore_n (L' := [(2, 23), (2, s), (0, j), (0, 0)]) dX0_letGo_35 rfl rfl rfl rfl ?_
    exact l3 c1
theorem bkX0_letGo_36 {b : Int} {mem : qm} {Q : Int → qm → Prop}
    {j v3 s : Int}
    (hs : q_st s)
    (o1 : (0 ≤ j ∧ j < 9))
    (l2 : (mem 25 j) ≤ v3 → Q 0 mem)
    (o3 : v3 < (mem 25 j) → q_in32 (j * 9) ∧ q_in32 ((j * 9) + v3))
    {P2 : Int → qm → Prop}
    (l4 : v3 < (mem 25 j) → q_Ev yX7_takeOldest cX7_takeOldest 3 (some .int) 2 0 0 [(2, s), (0, j)] (q_sh0, q_rb b, mem) (qK (q_rb b) (P2)))
    (o5 : v3 < (mem 25 j) → ∀ (r2 : Int), ∀ (m2 : qm), P2 r2 m2 → q_in32 r2 → (0 ≤ ((j * 9) + v3) ∧ ((j * 9) + v3) < 81) ∧ q_in32 (v3 + 1))
    (l6 : v3 < (mem 25 j) → ∀ (r2 : Int), ∀ (m2 : qm), P2 r2 m2 → q_in32 r2 → q_At yX0_letGo cX0_letGo 4 none 3 0 0 (qK (q_rb b) Q) 36 [(2, 23), (2, s), (0, j), (0, (v3 + 1))] [] (q_sh0, q_rb b, (q_up m2 24 ((j * 9) + v3) r2))) :
    q_At yX0_letGo cX0_letGo 4 none 3 0 0 (qK (q_rb b) Q) 36 [(2, 23), (2, s), (0, j), (0, v3)] [] (q_sh0, q_rb b, mem) := by
  refine q_iload_n dX0_letGo_36 rfl rfl ?_
  refine q_aload_n dX0_letGo_37 rfl rfl ?_
  refine q_getR (ci := 0) (k := 2) dX0_letGo_38 rfl (by decide) rfl tw136 (by decide) qs23 qw23_2 (by decide) ?_
  refine q_iload_n dX0_letGo_41 rfl rfl ?_
  refine qx_iald (v := (mem 25 j)) dX0_letGo_42 qs25 (o1) rfl ?_
  refine qx_icmp_ge (tgt := 68) dX0_letGo_43 (by decide) (fun c1 => ?_) (fun c1 => ?_)
  · skip
    exact q_vret dX0_letGo_68 (qK_i (l2 c1))
  · skip
    refine q_aload_n dX0_letGo_46 rfl rfl ?_
    refine q_getR (ci := 0) (k := 1) dX0_letGo_47 rfl (by decide) rfl tw135 (by decide) qs23 qw23_1 (by decide) ?_
    refine q_iload_n dX0_letGo_50 rfl rfl ?_
    refine qx_bipush dX0_letGo_51 rfl rfl ?_
    refine qx_imul dX0_letGo_53 (o3 c1).1 ?_
    refine q_iload_n dX0_letGo_54 rfl rfl ?_
    refine qx_iadd dX0_letGo_55 (o3 c1).2 ?_
    refine q_aload_n dX0_letGo_56 rfl rfl ?_
    refine q_iload_n dX0_letGo_57 rfl rfl ?_
    refine qx_invV (ci := 7) [(0, j)] [(0, j), (2, s), (0, ((j * 9) + v3)), (2, 24)] rfl qM_X7_takeOldest dX0_letGo_58 tw684 rfl (qst0 hs) rfl rfl rfl rfl (l4 c1) (fun r2 m2 p2 q2 => ?_)
    refine q_iast dX0_letGo_61 qs24 ((o5 c1 r2 m2 p2 q2).1).1 ((o5 c1 r2 m2 p2 q2).1).2 ?_
    refine qx_iinc (L' := [(2, 23), (2, s), (0, j), (0, (v3 + 1))]) dX0_letGo_62 rfl rfl rfl (o5 c1 r2 m2 p2 q2).2 rfl ?_
    refine q_goto (tgt := 36) dX0_letGo_65 (by decide) ?_
    exact l6 c1 r2 m2 p2 q2
theorem dX0_comeDown_0 : decode cX0_comeDown 0 = .ok (.aload_n 1, 1) := by decide +kernel
theorem dX0_comeDown_1 : decode cX0_comeDown 1 = .ok (.getfield 66, 3) := by decide +kernel
theorem dX0_comeDown_4 : decode cX0_comeDown 4 = .ok (.iload_n 2, 1) := by decide +kernel
theorem dX0_comeDown_5 : decode cX0_comeDown 5 = .ok (.iaload, 1) := by decide +kernel
theorem dX0_comeDown_6 : decode cX0_comeDown 6 = .ok (.istore_n 3, 1) := by decide +kernel
theorem dX0_comeDown_7 : decode cX0_comeDown 7 = .ok (.iconst 0, 1) := by decide +kernel
theorem dX0_comeDown_8 : decode cX0_comeDown 8 = .ok (.istore 4, 2) := by decide +kernel
theorem dX0_comeDown_10 : decode cX0_comeDown 10 = .ok (.iload 4, 2) := by decide +kernel
theorem dX0_comeDown_12 : decode cX0_comeDown 12 = .ok (.aload_n 0, 1) := by decide +kernel
theorem dX0_comeDown_13 : decode cX0_comeDown 13 = .ok (.getfield 15, 3) := by decide +kernel
theorem dX0_comeDown_16 : decode cX0_comeDown 16 = .ok (.iload_n 2, 1) := by decide +kernel
theorem dX0_comeDown_17 : decode cX0_comeDown 17 = .ok (.iaload, 1) := by decide +kernel
theorem dX0_comeDown_18 : decode cX0_comeDown 18 = .ok (.if_icmp .ge 67, 3) := by decide +kernel
theorem dX0_comeDown_21 : decode cX0_comeDown 21 = .ok (.aload_n 0, 1) := by decide +kernel
theorem dX0_comeDown_22 : decode cX0_comeDown 22 = .ok (.getfield 9, 3) := by decide +kernel
theorem dX0_comeDown_25 : decode cX0_comeDown 25 = .ok (.iload_n 2, 1) := by decide +kernel
theorem dX0_comeDown_26 : decode cX0_comeDown 26 = .ok (.bipush 9, 2) := by decide +kernel
theorem dX0_comeDown_28 : decode cX0_comeDown 28 = .ok (.imul, 1) := by decide +kernel
theorem dX0_comeDown_29 : decode cX0_comeDown 29 = .ok (.iload 4, 2) := by decide +kernel
theorem dX0_comeDown_31 : decode cX0_comeDown 31 = .ok (.iadd, 1) := by decide +kernel
theorem dX0_comeDown_32 : decode cX0_comeDown 32 = .ok (.iaload, 1) := by decide +kernel
theorem dX0_comeDown_33 : decode cX0_comeDown 33 = .ok (.istore 5, 2) := by decide +kernel
theorem dX0_comeDown_35 : decode cX0_comeDown 35 = .ok (.iload_n 3, 1) := by decide +kernel
theorem dX0_comeDown_36 : decode cX0_comeDown 36 = .ok (.iconst (-1), 1) := by decide +kernel
theorem dX0_comeDown_37 : decode cX0_comeDown 37 = .ok (.if_icmp .eq 31, 3) := by decide +kernel
theorem dX0_comeDown_40 : decode cX0_comeDown 40 = .ok (.aload_n 1, 1) := by decide +kernel
theorem dX0_comeDown_41 : decode cX0_comeDown 41 = .ok (.getfield 56, 3) := by decide +kernel
theorem dX0_comeDown_44 : decode cX0_comeDown 44 = .ok (.iload_n 3, 1) := by decide +kernel
theorem dX0_comeDown_45 : decode cX0_comeDown 45 = .ok (.iaload, 1) := by decide +kernel
theorem dX0_comeDown_46 : decode cX0_comeDown 46 = .ok (.aload_n 0, 1) := by decide +kernel
theorem dX0_comeDown_47 : decode cX0_comeDown 47 = .ok (.getfield 18, 3) := by decide +kernel
theorem dX0_comeDown_50 : decode cX0_comeDown 50 = .ok (.getfield 69, 3) := by decide +kernel
theorem dX0_comeDown_53 : decode cX0_comeDown 53 = .ok (.iload_n 3, 1) := by decide +kernel
theorem dX0_comeDown_54 : decode cX0_comeDown 54 = .ok (.iaload, 1) := by decide +kernel
theorem dX0_comeDown_55 : decode cX0_comeDown 55 = .ok (.if_icmp .ge 13, 3) := by decide +kernel
theorem dX0_comeDown_58 : decode cX0_comeDown 58 = .ok (.aload_n 1, 1) := by decide +kernel
theorem dX0_comeDown_59 : decode cX0_comeDown 59 = .ok (.iload_n 3, 1) := by decide +kernel
theorem dX0_comeDown_60 : decode cX0_comeDown 60 = .ok (.iload 5, 2) := by decide +kernel
theorem dX0_comeDown_62 : decode cX0_comeDown 62 = .ok (.invokevirtual 72, 3) := by decide +kernel
theorem dX0_comeDown_65 : decode cX0_comeDown 65 = .ok (.goto 14, 3) := by decide +kernel
theorem dX0_comeDown_68 : decode cX0_comeDown 68 = .ok (.aload_n 1, 1) := by decide +kernel
theorem dX0_comeDown_69 : decode cX0_comeDown 69 = .ok (.getfield 76, 3) := by decide +kernel
theorem dX0_comeDown_72 : decode cX0_comeDown 72 = .ok (.iload 5, 2) := by decide +kernel
theorem dX0_comeDown_74 : decode cX0_comeDown 74 = .ok (.dup2, 1) := by decide +kernel
theorem dX0_comeDown_75 : decode cX0_comeDown 75 = .ok (.iaload, 1) := by decide +kernel
theorem dX0_comeDown_76 : decode cX0_comeDown 76 = .ok (.iconst 1, 1) := by decide +kernel
theorem dX0_comeDown_77 : decode cX0_comeDown 77 = .ok (.iadd, 1) := by decide +kernel
theorem dX0_comeDown_78 : decode cX0_comeDown 78 = .ok (.iastore, 1) := by decide +kernel
theorem dX0_comeDown_79 : decode cX0_comeDown 79 = .ok (.iinc 4 1, 3) := by decide +kernel
theorem dX0_comeDown_82 : decode cX0_comeDown 82 = .ok (.goto (-72), 3) := by decide +kernel
theorem dX0_comeDown_85 : decode cX0_comeDown 85 = .ok (.return_, 1) := by decide +kernel
theorem bkX0_comeDown_0 {b : Int} {mem : qm} {Q : Int → qm → Prop}
    {j s : Int}
    (hs : q_st s)
    (o1 : (0 ≤ j ∧ j < 9))
    (l2 : q_At yX0_comeDown cX0_comeDown 6 none 3 0 0 (qK (q_rb b) Q) 10 [(2, 23), (2, s), (0, j), (0, (mem (s + 6) j)), (0, 0), (4, 0)] [] (q_sh0, q_rb b, mem)) :
    q_At yX0_comeDown cX0_comeDown 6 none 3 0 0 (qK (q_rb b) Q) 0 [(2, 23), (2, s), (0, j), (4, 0), (4, 0), (4, 0)] [] (q_sh0, q_rb b, mem) := by
  refine q_aload_n dX0_comeDown_0 rfl rfl ?_
  refine q_getR (ci := 7) (k := 5) dX0_comeDown_1 rfl (by decide) rfl tw91 (by decide) (qst0 hs) (qsw5 hs) (by have := qst_nn hs; omega) ?_
  refine q_iload_n dX0_comeDown_4 rfl rfl ?_
  refine qx_iald (v := (mem (s + 6) j)) dX0_comeDown_5 (qst6 hs) (o1) rfl ?_
  refine qx_istore_n (L' := [(2, 23), (2, s), (0, j), (0, (mem (s + 6) j)), (4, 0), (4, 0)]) dX0_comeDown_6 rfl rfl rfl rfl ?_
  refine qx_iconst dX0_comeDown_7 rfl rfl ?_
  refine qx_istore (L' := [(2, 23), (2, s), (0, j), (0, (mem (s + 6) j)), (0, 0), (4, 0)]) dX0_comeDown_8 rfl rfl rfl ?_
  exact l2
theorem bkX0_comeDown_10 {b : Int} {mem : qm} {Q : Int → qm → Prop}
    {j v3 v4 s : Int}
    (hs : q_st s)
    (o1 : (0 ≤ j ∧ j < 9))
    (l2 : (mem 25 j) ≤ v4 → Q 0 mem)
    (o3 : v4 < (mem 25 j) → q_in32 (j * 9) ∧ q_in32 ((j * 9) + v4) ∧ (0 ≤ ((j * 9) + v4) ∧ ((j * 9) + v4) < 81))
    (o4 : v4 < (mem 25 j) → v3 = (-1) → (0 ≤ (mem 24 ((j * 9) + v4)) ∧ (mem 24 ((j * 9) + v4)) < 7) ∧ q_in32 ((mem (s + 8) (mem 24 ((j * 9) + v4))) + 1) ∧ q_in32 (v4 + 1))
    (l5 : v4 < (mem 25 j) → v3 = (-1) → q_At yX0_comeDown cX0_comeDown 6 none 3 0 0 (qK (q_rb b) Q) 10 [(2, 23), (2, s), (0, j), (0, v3), (0, (v4 + 1)), (4, 0)] [] (q_sh0, q_rb b, (q_up mem (s + 8) (mem 24 ((j * 9) + v4)) ((mem (s + 8) (mem 24 ((j * 9) + v4))) + 1))))
    (o6 : v4 < (mem 25 j) → v3 ≠ (-1) → (0 ≤ v3 ∧ v3 < 9))
    (o7 : v4 < (mem 25 j) → v3 ≠ (-1) → (mem 2 v3) ≤ (mem (s + 3) v3) → (0 ≤ (mem 24 ((j * 9) + v4)) ∧ (mem 24 ((j * 9) + v4)) < 7) ∧ q_in32 ((mem (s + 8) (mem 24 ((j * 9) + v4))) + 1) ∧ q_in32 (v4 + 1))
    (l8 : v4 < (mem 25 j) → v3 ≠ (-1) → (mem 2 v3) ≤ (mem (s + 3) v3) → q_At yX0_comeDown cX0_comeDown 6 none 3 0 0 (qK (q_rb b) Q) 10 [(2, 23), (2, s), (0, j), (0, v3), (0, (v4 + 1)), (4, 0)] [] (q_sh0, q_rb b, (q_up mem (s + 8) (mem 24 ((j * 9) + v4)) ((mem (s + 8) (mem 24 ((j * 9) + v4))) + 1))))
    {P4 : Int → qm → Prop}
    (l9 : v4 < (mem 25 j) → v3 ≠ (-1) → (mem (s + 3) v3) < (mem 2 v3) → q_Ev yX7_putBehind cX7_putBehind 3 none 2 0 0 [(2, s), (0, v3), (0, (mem 24 ((j * 9) + v4)))] (q_sh0, q_rb b, mem) (qK (q_rb b) (P4)))
    (o10 : v4 < (mem 25 j) → v3 ≠ (-1) → (mem (s + 3) v3) < (mem 2 v3) → ∀ (r4 : Int), ∀ (m4 : qm), P4 r4 m4 → q_in32 r4 → q_in32 (v4 + 1))
    (l11 : v4 < (mem 25 j) → v3 ≠ (-1) → (mem (s + 3) v3) < (mem 2 v3) → ∀ (r4 : Int), ∀ (m4 : qm), P4 r4 m4 → q_in32 r4 → q_At yX0_comeDown cX0_comeDown 6 none 3 0 0 (qK (q_rb b) Q) 10 [(2, 23), (2, s), (0, j), (0, v3), (0, (v4 + 1)), (4, 0)] [] (q_sh0, q_rb b, m4)) :
    q_At yX0_comeDown cX0_comeDown 6 none 3 0 0 (qK (q_rb b) Q) 10 [(2, 23), (2, s), (0, j), (0, v3), (0, v4), (4, 0)] [] (q_sh0, q_rb b, mem) := by
  refine q_iload dX0_comeDown_10 rfl ?_
  refine q_aload_n dX0_comeDown_12 rfl rfl ?_
  refine q_getR (ci := 0) (k := 2) dX0_comeDown_13 rfl (by decide) rfl tw136 (by decide) qs23 qw23_2 (by decide) ?_
  refine q_iload_n dX0_comeDown_16 rfl rfl ?_
  refine qx_iald (v := (mem 25 j)) dX0_comeDown_17 qs25 (o1) rfl ?_
  refine qx_icmp_ge (tgt := 85) dX0_comeDown_18 (by decide) (fun c1 => ?_) (fun c1 => ?_)
  · skip
    exact q_vret dX0_comeDown_85 (qK_i (l2 c1))
  · skip
    refine q_aload_n dX0_comeDown_21 rfl rfl ?_
    refine q_getR (ci := 0) (k := 1) dX0_comeDown_22 rfl (by decide) rfl tw135 (by decide) qs23 qw23_1 (by decide) ?_
    refine q_iload_n dX0_comeDown_25 rfl rfl ?_
    refine qx_bipush dX0_comeDown_26 rfl rfl ?_
    refine qx_imul dX0_comeDown_28 (o3 c1).1 ?_
    refine q_iload dX0_comeDown_29 rfl ?_
    refine qx_iadd dX0_comeDown_31 (o3 c1).2.1 ?_
    refine qx_iald (v := (mem 24 ((j * 9) + v4))) dX0_comeDown_32 qs24 (o3 c1).2.2 rfl ?_
    refine qx_istore (L' := [(2, 23), (2, s), (0, j), (0, v3), (0, v4), (0, (mem 24 ((j * 9) + v4)))]) dX0_comeDown_33 rfl rfl rfl ?_
    refine q_iload_n dX0_comeDown_35 rfl rfl ?_
    refine qx_iconst dX0_comeDown_36 rfl rfl ?_
    refine qx_icmp_eq (tgt := 68) dX0_comeDown_37 (by decide) (fun c2 => ?_) (fun c2 => ?_)
    · skip
      refine q_aload_n dX0_comeDown_68 rfl rfl ?_
      refine q_getR (ci := 7) (k := 7) dX0_comeDown_69 rfl (by decide) rfl tw99 (by decide) (qst0 hs) (qsw7 hs) (by have := qst_nn hs; omega) ?_
      refine q_iload dX0_comeDown_72 rfl ?_
      refine q_dup2 dX0_comeDown_74 (fun h => by cases h) (fun h => by cases h) ?_
      refine qx_iald (v := (mem (s + 8) (mem 24 ((j * 9) + v4)))) dX0_comeDown_75 (qst8 hs) (o4 c1 c2).1 rfl ?_
      refine qx_iconst dX0_comeDown_76 rfl rfl ?_
      refine qx_iadd dX0_comeDown_77 (o4 c1 c2).2.1 ?_
      refine q_iast dX0_comeDown_78 (qst8 hs) ((o4 c1 c2).1).1 ((o4 c1 c2).1).2 ?_
      refine qx_iinc (L' := [(2, 23), (2, s), (0, j), (0, v3), (0, (v4 + 1)), (0, (mem 24 ((j * 9) + v4)))]) dX0_comeDown_79 rfl rfl rfl (o4 c1 c2).2.2 rfl ?_
      refine q_goto (tgt := 10) dX0_comeDown_82 (by decide) ?_
      refine q_kill (L' := [(2, 23), (2, s), (0, j), (0, v3), (0, (v4 + 1)), (4, 0)]) 5 rfl ?_
      exact l5 c1 c2
    · skip
      refine q_aload_n dX0_comeDown_40 rfl rfl ?_
      refine q_getR (ci := 7) (k := 2) dX0_comeDown_41 rfl (by decide) rfl tw75 (by decide) (qst0 hs) (qsw2 hs) (by have := qst_nn hs; omega) ?_
      refine q_iload_n dX0_comeDown_44 rfl rfl ?_
      refine qx_iald (v := (mem (s + 3) v3)) dX0_comeDown_45 (qst3 hs) (o6 c1 c2) rfl ?_
      refine q_aload_n dX0_comeDown_46 rfl rfl ?_
      refine q_getR (ci := 0) (k := 0) dX0_comeDown_47 rfl (by decide) rfl tw134 (by decide) qs23 qw23_0 (by decide) ?_
      refine q_getR (ci := 9) (k := 0) dX0_comeDown_50 rfl (by decide) rfl tw37 (by decide) qs1 qw1_0 (by decide) ?_
      refine q_iload_n dX0_comeDown_53 rfl rfl ?_
      refine qx_iald (v := (mem 2 v3)) dX0_comeDown_54 qs2 (o6 c1 c2) rfl ?_
      refine qx_icmp_ge (tgt := 68) dX0_comeDown_55 (by decide) (fun c3 => ?_) (fun c3 => ?_)
      · skip
        refine q_aload_n dX0_comeDown_68 rfl rfl ?_
        refine q_getR (ci := 7) (k := 7) dX0_comeDown_69 rfl (by decide) rfl tw99 (by decide) (qst0 hs) (qsw7 hs) (by have := qst_nn hs; omega) ?_
        refine q_iload dX0_comeDown_72 rfl ?_
        refine q_dup2 dX0_comeDown_74 (fun h => by cases h) (fun h => by cases h) ?_
        refine qx_iald (v := (mem (s + 8) (mem 24 ((j * 9) + v4)))) dX0_comeDown_75 (qst8 hs) (o7 c1 c2 c3).1 rfl ?_
        refine qx_iconst dX0_comeDown_76 rfl rfl ?_
        refine qx_iadd dX0_comeDown_77 (o7 c1 c2 c3).2.1 ?_
        refine q_iast dX0_comeDown_78 (qst8 hs) ((o7 c1 c2 c3).1).1 ((o7 c1 c2 c3).1).2 ?_
        refine qx_iinc (L' := [(2, 23), (2, s), (0, j), (0, v3), (0, (v4 + 1)), (0, (mem 24 ((j * 9) + v4)))]) dX0_comeDown_79 rfl rfl rfl (o7 c1 c2 c3).2.2 rfl ?_
        refine q_goto (tgt := 10) dX0_comeDown_82 (by decide) ?_
        refine q_kill (L' := [(2, 23), (2, s), (0, j), (0, v3), (0, (v4 + 1)), (4, 0)]) 5 rfl ?_
        exact l8 c1 c2 c3
      · skip
        refine q_aload_n dX0_comeDown_58 rfl rfl ?_
        refine q_iload_n dX0_comeDown_59 rfl rfl ?_
        refine q_iload dX0_comeDown_60 rfl ?_
        refine qx_invV (ci := 7) [(0, v3), (0, (mem 24 ((j * 9) + v4)))] [(0, (mem 24 ((j * 9) + v4))), (0, v3), (2, s)] rfl qM_X7_putBehind dX0_comeDown_62 tw689 rfl (qst0 hs) rfl rfl rfl rfl (l9 c1 c2 c3) (fun r4 m4 p4 q4 => ?_)
        refine q_goto (tgt := 79) dX0_comeDown_65 (by decide) ?_
        refine qx_iinc (L' := [(2, 23), (2, s), (0, j), (0, v3), (0, (v4 + 1)), (0, (mem 24 ((j * 9) + v4)))]) dX0_comeDown_79 rfl rfl rfl (o10 c1 c2 c3 r4 m4 p4 q4) rfl ?_
        refine q_goto (tgt := 10) dX0_comeDown_82 (by decide) ?_
        refine q_kill (L' := [(2, 23), (2, s), (0, j), (0, v3), (0, (v4 + 1)), (4, 0)]) 5 rfl ?_
        exact l11 c1 c2 c3 r4 m4 p4 q4
theorem dX0_strike_0 : decode cX0_strike 0 = .ok (.iconst 0, 1) := by decide +kernel
theorem dX0_strike_1 : decode cX0_strike 1 = .ok (.istore_n 2, 1) := by decide +kernel
theorem dX0_strike_2 : decode cX0_strike 2 = .ok (.iload_n 2, 1) := by decide +kernel
theorem dX0_strike_3 : decode cX0_strike 3 = .ok (.aload_n 0, 1) := by decide +kernel
theorem dX0_strike_4 : decode cX0_strike 4 = .ok (.getfield 18, 3) := by decide +kernel
theorem dX0_strike_7 : decode cX0_strike 7 = .ok (.getfield 22, 3) := by decide +kernel
theorem dX0_strike_10 : decode cX0_strike 10 = .ok (.if_icmp .ge 15, 3) := by decide +kernel
theorem dX0_strike_13 : decode cX0_strike 13 = .ok (.aload_n 0, 1) := by decide +kernel
theorem dX0_strike_14 : decode cX0_strike 14 = .ok (.aload_n 1, 1) := by decide +kernel
theorem dX0_strike_15 : decode cX0_strike 15 = .ok (.iload_n 2, 1) := by decide +kernel
theorem dX0_strike_16 : decode cX0_strike 16 = .ok (.invokevirtual 28, 3) := by decide +kernel
theorem dX0_strike_19 : decode cX0_strike 19 = .ok (.iinc 2 1, 3) := by decide +kernel
theorem dX0_strike_22 : decode cX0_strike 22 = .ok (.goto (-20), 3) := by decide +kernel
theorem dX0_strike_25 : decode cX0_strike 25 = .ok (.iconst 0, 1) := by decide +kernel
theorem dX0_strike_26 : decode cX0_strike 26 = .ok (.istore_n 2, 1) := by decide +kernel
theorem dX0_strike_27 : decode cX0_strike 27 = .ok (.iload_n 2, 1) := by decide +kernel
theorem dX0_strike_28 : decode cX0_strike 28 = .ok (.aload_n 0, 1) := by decide +kernel
theorem dX0_strike_29 : decode cX0_strike 29 = .ok (.getfield 18, 3) := by decide +kernel
theorem dX0_strike_32 : decode cX0_strike 32 = .ok (.getfield 22, 3) := by decide +kernel
theorem dX0_strike_35 : decode cX0_strike 35 = .ok (.if_icmp .ge 15, 3) := by decide +kernel
theorem dX0_strike_38 : decode cX0_strike 38 = .ok (.aload_n 0, 1) := by decide +kernel
theorem dX0_strike_39 : decode cX0_strike 39 = .ok (.aload_n 1, 1) := by decide +kernel
theorem dX0_strike_40 : decode cX0_strike 40 = .ok (.iload_n 2, 1) := by decide +kernel
theorem dX0_strike_41 : decode cX0_strike 41 = .ok (.invokevirtual 32, 3) := by decide +kernel
theorem dX0_strike_44 : decode cX0_strike 44 = .ok (.iinc 2 1, 3) := by decide +kernel
theorem dX0_strike_47 : decode cX0_strike 47 = .ok (.goto (-20), 3) := by decide +kernel
theorem dX0_strike_50 : decode cX0_strike 50 = .ok (.iconst 0, 1) := by decide +kernel
theorem dX0_strike_51 : decode cX0_strike 51 = .ok (.istore_n 2, 1) := by decide +kernel
theorem dX0_strike_52 : decode cX0_strike 52 = .ok (.iload_n 2, 1) := by decide +kernel
theorem dX0_strike_53 : decode cX0_strike 53 = .ok (.aload_n 0, 1) := by decide +kernel
theorem dX0_strike_54 : decode cX0_strike 54 = .ok (.getfield 18, 3) := by decide +kernel
theorem dX0_strike_57 : decode cX0_strike 57 = .ok (.getfield 22, 3) := by decide +kernel
theorem dX0_strike_60 : decode cX0_strike 60 = .ok (.if_icmp .ge 27, 3) := by decide +kernel
theorem dX0_strike_63 : decode cX0_strike 63 = .ok (.aload_n 1, 1) := by decide +kernel
theorem dX0_strike_64 : decode cX0_strike 64 = .ok (.getfield 35, 3) := by decide +kernel
theorem dX0_strike_67 : decode cX0_strike 67 = .ok (.iload_n 2, 1) := by decide +kernel
theorem dX0_strike_68 : decode cX0_strike 68 = .ok (.iconst 0, 1) := by decide +kernel
theorem dX0_strike_69 : decode cX0_strike 69 = .ok (.aload_n 1, 1) := by decide +kernel
theorem dX0_strike_70 : decode cX0_strike 70 = .ok (.getfield 35, 3) := by decide +kernel
theorem dX0_strike_73 : decode cX0_strike 73 = .ok (.iload_n 2, 1) := by decide +kernel
theorem dX0_strike_74 : decode cX0_strike 74 = .ok (.iaload, 1) := by decide +kernel
theorem dX0_strike_75 : decode cX0_strike 75 = .ok (.iconst 1, 1) := by decide +kernel
theorem dX0_strike_76 : decode cX0_strike 76 = .ok (.isub, 1) := by decide +kernel
theorem dX0_strike_77 : decode cX0_strike 77 = .ok (.invokestatic 40, 3) := by decide +kernel
theorem dX0_strike_80 : decode cX0_strike 80 = .ok (.iastore, 1) := by decide +kernel
theorem dX0_strike_81 : decode cX0_strike 81 = .ok (.iinc 2 1, 3) := by decide +kernel
theorem dX0_strike_84 : decode cX0_strike 84 = .ok (.goto (-32), 3) := by decide +kernel
theorem dX0_strike_87 : decode cX0_strike 87 = .ok (.aload_n 1, 1) := by decide +kernel
theorem dX0_strike_88 : decode cX0_strike 88 = .ok (.dup, 1) := by decide +kernel
theorem dX0_strike_89 : decode cX0_strike 89 = .ok (.getfield 46, 3) := by decide +kernel
theorem dX0_strike_92 : decode cX0_strike 92 = .ok (.iconst 1, 1) := by decide +kernel
theorem dX0_strike_93 : decode cX0_strike 93 = .ok (.iadd, 1) := by decide +kernel
theorem dX0_strike_94 : decode cX0_strike 94 = .ok (.putfield 46, 3) := by decide +kernel
theorem dX0_strike_97 : decode cX0_strike 97 = .ok (.aload_n 1, 1) := by decide +kernel
theorem dX0_strike_98 : decode cX0_strike 98 = .ok (.iconst 0, 1) := by decide +kernel
theorem dX0_strike_99 : decode cX0_strike 99 = .ok (.putfield 49, 3) := by decide +kernel
theorem dX0_strike_102 : decode cX0_strike 102 = .ok (.return_, 1) := by decide +kernel
theorem bkX0_strike_0 {b : Int} {mem : qm} {Q : Int → qm → Prop}
    {s : Int}
    (hs : q_st s)
    (l1 : q_At yX0_strike cX0_strike 3 none 4 0 0 (qK (q_rb b) Q) 2 [(2, 23), (2, s), (0, 0)] [] (q_sh0, q_rb b, mem)) :
    q_At yX0_strike cX0_strike 3 none 4 0 0 (qK (q_rb b) Q) 0 [(2, 23), (2, s), (4, 0)] [] (q_sh0, q_rb b, mem) := by
  refine qx_iconst dX0_strike_0 rfl rfl ?_
  refine qx_istore_n (L' := [(2, 23), (2, s), (0, 0)]) dX0_strike_1 rfl rfl rfl rfl ?_
  exact l1
theorem bkX0_strike_2 {b : Int} {mem : qm} {Q : Int → qm → Prop}
    {v2 s : Int}
    (hs : q_st s)
    (l1 : (mem 1 3) ≤ v2 → q_At yX0_strike cX0_strike 3 none 4 0 0 (qK (q_rb b) Q) 27 [(2, 23), (2, s), (0, 0)] [] (q_sh0, q_rb b, mem))
    {P2 : Int → qm → Prop}
    (l2 : v2 < (mem 1 3) → q_Ev yX0_letGo cX0_letGo 4 none 3 0 0 [(2, 23), (2, s), (0, v2)] (q_sh0, q_rb b, mem) (qK (q_rb b) (P2)))
    (o3 : v2 < (mem 1 3) → ∀ (r2 : Int), ∀ (m2 : qm), P2 r2 m2 → q_in32 r2 → q_in32 (v2 + 1))
    (l4 : v2 < (mem 1 3) → ∀ (r2 : Int), ∀ (m2 : qm), P2 r2 m2 → q_in32 r2 → q_At yX0_strike cX0_strike 3 none 4 0 0 (qK (q_rb b) Q) 2 [(2, 23), (2, s), (0, (v2 + 1))] [] (q_sh0, q_rb b, m2)) :
    q_At yX0_strike cX0_strike 3 none 4 0 0 (qK (q_rb b) Q) 2 [(2, 23), (2, s), (0, v2)] [] (q_sh0, q_rb b, mem) := by
  refine q_iload_n dX0_strike_2 rfl rfl ?_
  refine q_aload_n dX0_strike_3 rfl rfl ?_
  refine q_getR (ci := 0) (k := 0) dX0_strike_4 rfl (by decide) rfl tw134 (by decide) qs23 qw23_0 (by decide) ?_
  refine qx_getI (ci := 9) (k := 3) (v := (mem 1 3)) dX0_strike_7 rfl rfl rfl tw50 rfl qs1 rfl ?_
  refine qx_icmp_ge (tgt := 25) dX0_strike_10 (by decide) (fun c1 => ?_) (fun c1 => ?_)
  · skip
    refine qx_iconst dX0_strike_25 rfl rfl ?_
    refine qx_istore_n (L' := [(2, 23), (2, s), (0, 0)]) dX0_strike_26 rfl rfl rfl rfl ?_
    exact l1 c1
  · skip
    refine q_aload_n dX0_strike_13 rfl rfl ?_
    refine q_aload_n dX0_strike_14 rfl rfl ?_
    refine q_iload_n dX0_strike_15 rfl rfl ?_
    refine qx_invV (ci := 0) [(2, s), (0, v2)] [(0, v2), (2, s), (2, 23)] rfl qM_X0_letGo dX0_strike_16 tw679 rfl qs23 rfl rfl rfl rfl (l2 c1) (fun r2 m2 p2 q2 => ?_)
    refine qx_iinc (L' := [(2, 23), (2, s), (0, (v2 + 1))]) dX0_strike_19 rfl rfl rfl (o3 c1 r2 m2 p2 q2) rfl ?_
    refine q_goto (tgt := 2) dX0_strike_22 (by decide) ?_
    exact l4 c1 r2 m2 p2 q2
theorem bkX0_strike_27 {b : Int} {mem : qm} {Q : Int → qm → Prop}
    {v2 s : Int}
    (hs : q_st s)
    (l1 : (mem 1 3) ≤ v2 → q_At yX0_strike cX0_strike 3 none 4 0 0 (qK (q_rb b) Q) 52 [(2, 23), (2, s), (0, 0)] [] (q_sh0, q_rb b, mem))
    {P2 : Int → qm → Prop}
    (l2 : v2 < (mem 1 3) → q_Ev yX0_comeDown cX0_comeDown 6 none 3 0 0 [(2, 23), (2, s), (0, v2)] (q_sh0, q_rb b, mem) (qK (q_rb b) (P2)))
    (o3 : v2 < (mem 1 3) → ∀ (r2 : Int), ∀ (m2 : qm), P2 r2 m2 → q_in32 r2 → q_in32 (v2 + 1))
    (l4 : v2 < (mem 1 3) → ∀ (r2 : Int), ∀ (m2 : qm), P2 r2 m2 → q_in32 r2 → q_At yX0_strike cX0_strike 3 none 4 0 0 (qK (q_rb b) Q) 27 [(2, 23), (2, s), (0, (v2 + 1))] [] (q_sh0, q_rb b, m2)) :
    q_At yX0_strike cX0_strike 3 none 4 0 0 (qK (q_rb b) Q) 27 [(2, 23), (2, s), (0, v2)] [] (q_sh0, q_rb b, mem) := by
  refine q_iload_n dX0_strike_27 rfl rfl ?_
  refine q_aload_n dX0_strike_28 rfl rfl ?_
  refine q_getR (ci := 0) (k := 0) dX0_strike_29 rfl (by decide) rfl tw134 (by decide) qs23 qw23_0 (by decide) ?_
  refine qx_getI (ci := 9) (k := 3) (v := (mem 1 3)) dX0_strike_32 rfl rfl rfl tw50 rfl qs1 rfl ?_
  refine qx_icmp_ge (tgt := 50) dX0_strike_35 (by decide) (fun c1 => ?_) (fun c1 => ?_)
  · skip
    refine qx_iconst dX0_strike_50 rfl rfl ?_
    refine qx_istore_n (L' := [(2, 23), (2, s), (0, 0)]) dX0_strike_51 rfl rfl rfl rfl ?_
    exact l1 c1
  · skip
    refine q_aload_n dX0_strike_38 rfl rfl ?_
    refine q_aload_n dX0_strike_39 rfl rfl ?_
    refine q_iload_n dX0_strike_40 rfl rfl ?_
    refine qx_invV (ci := 0) [(2, s), (0, v2)] [(0, v2), (2, s), (2, 23)] rfl qM_X0_comeDown dX0_strike_41 tw685 rfl qs23 rfl rfl rfl rfl (l2 c1) (fun r2 m2 p2 q2 => ?_)
    refine qx_iinc (L' := [(2, 23), (2, s), (0, (v2 + 1))]) dX0_strike_44 rfl rfl rfl (o3 c1 r2 m2 p2 q2) rfl ?_
    refine q_goto (tgt := 27) dX0_strike_47 (by decide) ?_
    exact l4 c1 r2 m2 p2 q2
theorem bkX0_strike_52 {b : Int} {mem : qm} {Q : Int → qm → Prop}
    {v2 s : Int}
    (hs : q_st s)
    (o1 : (mem 1 3) ≤ v2 → q_in32 ((mem s 8) + 1))
    (l2 : (mem 1 3) ≤ v2 → Q 0 (q_up (q_up mem s 8 ((mem s 8) + 1)) s 9 0))
    (o3 : v2 < (mem 1 3) → (0 ≤ v2 ∧ v2 < 9) ∧ q_in32 ((mem (s + 4) v2) - 1) ∧ q_in32 (v2 + 1))
    (l4 : v2 < (mem 1 3) → q_At yX0_strike cX0_strike 3 none 4 0 0 (qK (q_rb b) Q) 52 [(2, 23), (2, s), (0, (v2 + 1))] [] (q_sh0, q_rb b, (q_up mem (s + 4) v2 (max 0 ((mem (s + 4) v2) - 1))))) :
    q_At yX0_strike cX0_strike 3 none 4 0 0 (qK (q_rb b) Q) 52 [(2, 23), (2, s), (0, v2)] [] (q_sh0, q_rb b, mem) := by
  refine q_iload_n dX0_strike_52 rfl rfl ?_
  refine q_aload_n dX0_strike_53 rfl rfl ?_
  refine q_getR (ci := 0) (k := 0) dX0_strike_54 rfl (by decide) rfl tw134 (by decide) qs23 qw23_0 (by decide) ?_
  refine qx_getI (ci := 9) (k := 3) (v := (mem 1 3)) dX0_strike_57 rfl rfl rfl tw50 rfl qs1 rfl ?_
  refine qx_icmp_ge (tgt := 87) dX0_strike_60 (by decide) (fun c1 => ?_) (fun c1 => ?_)
  · skip
    refine q_aload_n dX0_strike_87 rfl rfl ?_
    refine q_dup dX0_strike_88 (fun h => by cases h) ?_
    refine qx_getI (ci := 7) (k := 8) (v := (mem s 8)) dX0_strike_89 rfl rfl rfl tw101 rfl (qst0 hs) rfl ?_
    refine qx_iconst dX0_strike_92 rfl rfl ?_
    refine qx_iadd dX0_strike_93 (o1 c1) ?_
    refine q_putI (ci := 7) (k := 8) (kI := 8) (ty := .int) dX0_strike_94 rfl (by decide) rfl tw101 rfl rfl rfl (fun _ => ⟨rfl, rfl⟩) (qst0 hs) ?_
    refine q_aload_n dX0_strike_97 rfl rfl ?_
    refine qx_iconst dX0_strike_98 rfl rfl ?_
    refine q_putI (ci := 7) (k := 9) (kI := 9) (ty := .boolean) dX0_strike_99 rfl (by decide) rfl tw104 rfl rfl rfl (fun _ => ⟨rfl, rfl⟩) (qst0 hs) ?_
    exact q_vret dX0_strike_102 (qK_i (l2 c1))
  · skip
    refine q_aload_n dX0_strike_63 rfl rfl ?_
    refine q_getR (ci := 7) (k := 3) dX0_strike_64 rfl (by decide) rfl tw81 (by decide) (qst0 hs) (qsw3 hs) (by have := qst_nn hs; omega) ?_
    refine q_iload_n dX0_strike_67 rfl rfl ?_
    refine qx_iconst dX0_strike_68 rfl rfl ?_
    refine q_aload_n dX0_strike_69 rfl rfl ?_
    refine q_getR (ci := 7) (k := 3) dX0_strike_70 rfl (by decide) rfl tw81 (by decide) (qst0 hs) (qsw3 hs) (by have := qst_nn hs; omega) ?_
    refine q_iload_n dX0_strike_73 rfl rfl ?_
    refine qx_iald (v := (mem (s + 4) v2)) dX0_strike_74 (qst4 hs) (o3 c1).1 rfl ?_
    refine qx_iconst dX0_strike_75 rfl rfl ?_
    refine qx_isub dX0_strike_76 (o3 c1).2.1 ?_
    refine q_max dX0_strike_77 tw690 tw597 tw15 tw598 (by decide) (Nat.le_of_ble_eq_true rfl) ?_
    refine q_iast dX0_strike_80 (qst4 hs) ((o3 c1).1).1 ((o3 c1).1).2 ?_
    refine qx_iinc (L' := [(2, 23), (2, s), (0, (v2 + 1))]) dX0_strike_81 rfl rfl rfl (o3 c1).2.2 rfl ?_
    refine q_goto (tgt := 52) dX0_strike_84 (by decide) ?_
    exact l4 c1
theorem dX3_remember_0 : decode cX3_remember 0 = .ok (.aload_n 0, 1) := by decide +kernel
theorem dX3_remember_1 : decode cX3_remember 1 = .ok (.getfield 11, 3) := by decide +kernel
theorem dX3_remember_4 : decode cX3_remember 4 = .ok (.aload_n 0, 1) := by decide +kernel
theorem dX3_remember_5 : decode cX3_remember 5 = .ok (.getfield 18, 3) := by decide +kernel
theorem dX3_remember_8 : decode cX3_remember 8 = .ok (.aaload, 1) := by decide +kernel
theorem dX3_remember_9 : decode cX3_remember 9 = .ok (.aload_n 1, 1) := by decide +kernel
theorem dX3_remember_10 : decode cX3_remember 10 = .ok (.invokevirtual 22, 3) := by decide +kernel
theorem dX3_remember_13 : decode cX3_remember 13 = .ok (.aload_n 0, 1) := by decide +kernel
theorem dX3_remember_14 : decode cX3_remember 14 = .ok (.aload_n 0, 1) := by decide +kernel
theorem dX3_remember_15 : decode cX3_remember 15 = .ok (.getfield 18, 3) := by decide +kernel
theorem dX3_remember_18 : decode cX3_remember 18 = .ok (.iconst 1, 1) := by decide +kernel
theorem dX3_remember_19 : decode cX3_remember 19 = .ok (.iadd, 1) := by decide +kernel
theorem dX3_remember_20 : decode cX3_remember 20 = .ok (.bipush 12, 2) := by decide +kernel
theorem dX3_remember_22 : decode cX3_remember 22 = .ok (.irem, 1) := by decide +kernel
theorem dX3_remember_23 : decode cX3_remember 23 = .ok (.putfield 18, 3) := by decide +kernel
theorem dX3_remember_26 : decode cX3_remember 26 = .ok (.aload_n 0, 1) := by decide +kernel
theorem dX3_remember_27 : decode cX3_remember 27 = .ok (.bipush 12, 2) := by decide +kernel
theorem dX3_remember_29 : decode cX3_remember 29 = .ok (.aload_n 0, 1) := by decide +kernel
theorem dX3_remember_30 : decode cX3_remember 30 = .ok (.getfield 26, 3) := by decide +kernel
theorem dX3_remember_33 : decode cX3_remember 33 = .ok (.iconst 1, 1) := by decide +kernel
theorem dX3_remember_34 : decode cX3_remember 34 = .ok (.iadd, 1) := by decide +kernel
theorem dX3_remember_35 : decode cX3_remember 35 = .ok (.invokestatic 29, 3) := by decide +kernel
theorem dX3_remember_38 : decode cX3_remember 38 = .ok (.putfield 26, 3) := by decide +kernel
theorem dX3_remember_41 : decode cX3_remember 41 = .ok (.return_, 1) := by decide +kernel
theorem bkX3_remember_0 {b : Int} {mem : qm} {Q : Int → qm → Prop}
    {o : Int}
    (ho : q_st o)
    (o1 : (0 ≤ (mem 33 1) ∧ (mem 33 1) < 12))
    {P1 : Int → qm → Prop}
    (l2 : q_Ev yX7_copyWater cX7_copyWater 2 none 1 0 0 [(2, (35 + 9 * (mem 33 1))), (2, o)] (q_sh0, q_rb b, mem) (qK (q_rb b) (P1)))
    (o3 : ∀ (r1 : Int), ∀ (m1 : qm), P1 r1 m1 → q_in32 r1 → q_in32 ((m1 33 1) + 1) ∧ q_in32 ((m1 33 2) + 1))
    (l4 : ∀ (r1 : Int), ∀ (m1 : qm), P1 r1 m1 → q_in32 r1 → Q 0 (q_up (q_up m1 33 1 (q_oirem ((m1 33 1) + 1) 12)) 33 2 (min 12 ((m1 33 2) + 1)))) :
    q_At yX3_remember cX3_remember 2 none 2 0 0 (qK (q_rb b) Q) 0 [(2, 33), (2, o)] [] (q_sh0, q_rb b, mem) := by
  refine q_aload_n dX3_remember_0 rfl rfl ?_
  refine q_getR (ci := 3) (k := 0) dX3_remember_1 rfl (by decide) rfl tw192 (by decide) qs33 qw33_0 (by decide) ?_
  refine q_aload_n dX3_remember_4 rfl rfl ?_
  refine qx_getI (ci := 3) (k := 1) (v := (mem 33 1)) dX3_remember_5 rfl rfl rfl tw193 rfl qs33 rfl ?_
  have hst1 : q_st (35 + 9 * (mem 33 1)) := q_st34 ((o1))
  refine q_aald dX3_remember_8 qs34 ((o1)).1 ((o1)).2 (q_wt34 ((o1))) (by have := qst_nn hst1; omega) ?_
  refine q_aload_n dX3_remember_9 rfl rfl ?_
  refine qx_invV (ci := 7) [(2, o)] [(2, o), (2, (35 + 9 * (mem 33 1)))] rfl qM_X7_copyWater dX3_remember_10 tw610 rfl (qst0 hst1) rfl rfl rfl rfl (l2) (fun r1 m1 p1 q1 => ?_)
  refine q_aload_n dX3_remember_13 rfl rfl ?_
  refine q_aload_n dX3_remember_14 rfl rfl ?_
  refine qx_getI (ci := 3) (k := 1) (v := (m1 33 1)) dX3_remember_15 rfl rfl rfl tw193 rfl qs33 rfl ?_
  refine qx_iconst dX3_remember_18 rfl rfl ?_
  refine qx_iadd dX3_remember_19 (o3 r1 m1 p1 q1).1 ?_
  refine qx_bipush dX3_remember_20 rfl rfl ?_
  refine q_irem dX3_remember_22 (by decide) ?_
  refine q_putI (ci := 3) (k := 1) (kI := 1) (ty := .int) dX3_remember_23 rfl (by decide) rfl tw193 rfl rfl rfl (fun _ => ⟨rfl, rfl⟩) qs33 ?_
  refine q_aload_n dX3_remember_26 rfl rfl ?_
  refine qx_bipush dX3_remember_27 rfl rfl ?_
  refine q_aload_n dX3_remember_29 rfl rfl ?_
  refine qx_getI (ci := 3) (k := 2) (v := (m1 33 2)) dX3_remember_30 rfl rfl rfl tw194 rfl qs33 (q_up_i (by decide)) ?_
  refine qx_iconst dX3_remember_33 rfl rfl ?_
  refine qx_iadd dX3_remember_34 (o3 r1 m1 p1 q1).2 ?_
  refine q_min dX3_remember_35 tw615 tw429 tw15 tw430 (by decide) (Nat.le_of_ble_eq_true rfl) ?_
  refine q_putI (ci := 3) (k := 2) (kI := 2) (ty := .int) dX3_remember_38 rfl (by decide) rfl tw194 rfl rfl rfl (fun _ => ⟨rfl, rfl⟩) qs33 ?_
  exact q_vret dX3_remember_41 (qK_i (l4 r1 m1 p1 q1))
theorem dX3_bringBack_0 : decode cX3_bringBack 0 = .ok (.aload_n 0, 1) := by decide +kernel
theorem dX3_bringBack_1 : decode cX3_bringBack 1 = .ok (.aload_n 0, 1) := by decide +kernel
theorem dX3_bringBack_2 : decode cX3_bringBack 2 = .ok (.getfield 18, 3) := by decide +kernel
theorem dX3_bringBack_5 : decode cX3_bringBack 5 = .ok (.bipush 12, 2) := by decide +kernel
theorem dX3_bringBack_7 : decode cX3_bringBack 7 = .ok (.iadd, 1) := by decide +kernel
theorem dX3_bringBack_8 : decode cX3_bringBack 8 = .ok (.iconst 1, 1) := by decide +kernel
theorem dX3_bringBack_9 : decode cX3_bringBack 9 = .ok (.isub, 1) := by decide +kernel
theorem dX3_bringBack_10 : decode cX3_bringBack 10 = .ok (.bipush 12, 2) := by decide +kernel
theorem dX3_bringBack_12 : decode cX3_bringBack 12 = .ok (.irem, 1) := by decide +kernel
theorem dX3_bringBack_13 : decode cX3_bringBack 13 = .ok (.putfield 18, 3) := by decide +kernel
theorem dX3_bringBack_16 : decode cX3_bringBack 16 = .ok (.aload_n 1, 1) := by decide +kernel
theorem dX3_bringBack_17 : decode cX3_bringBack 17 = .ok (.aload_n 0, 1) := by decide +kernel
theorem dX3_bringBack_18 : decode cX3_bringBack 18 = .ok (.getfield 11, 3) := by decide +kernel
theorem dX3_bringBack_21 : decode cX3_bringBack 21 = .ok (.aload_n 0, 1) := by decide +kernel
theorem dX3_bringBack_22 : decode cX3_bringBack 22 = .ok (.getfield 18, 3) := by decide +kernel
theorem dX3_bringBack_25 : decode cX3_bringBack 25 = .ok (.aaload, 1) := by decide +kernel
theorem dX3_bringBack_26 : decode cX3_bringBack 26 = .ok (.invokevirtual 22, 3) := by decide +kernel
theorem dX3_bringBack_29 : decode cX3_bringBack 29 = .ok (.aload_n 0, 1) := by decide +kernel
theorem dX3_bringBack_30 : decode cX3_bringBack 30 = .ok (.dup, 1) := by decide +kernel
theorem dX3_bringBack_31 : decode cX3_bringBack 31 = .ok (.getfield 26, 3) := by decide +kernel
theorem dX3_bringBack_34 : decode cX3_bringBack 34 = .ok (.iconst 1, 1) := by decide +kernel
theorem dX3_bringBack_35 : decode cX3_bringBack 35 = .ok (.isub, 1) := by decide +kernel
theorem dX3_bringBack_36 : decode cX3_bringBack 36 = .ok (.putfield 26, 3) := by decide +kernel
theorem dX3_bringBack_39 : decode cX3_bringBack 39 = .ok (.return_, 1) := by decide +kernel
theorem bkX3_bringBack_0 {b : Int} {mem : qm} {Q : Int → qm → Prop}
    {o : Int}
    (ho : q_st o)
    (o1 : q_in32 ((mem 33 1) + 12) ∧ q_in32 (((mem 33 1) + 12) - 1) ∧ (0 ≤ (q_oirem (((mem 33 1) + 12) - 1) 12) ∧ (q_oirem (((mem 33 1) + 12) - 1) 12) < 12))
    {P1 : Int → qm → Prop}
    (l2 : q_Ev yX7_copyWater cX7_copyWater 2 none 1 0 0 [(2, o), (2, (35 + 9 * (q_oirem (((mem 33 1) + 12) - 1) 12)))] (q_sh0, q_rb b, (q_up mem 33 1 (q_oirem (((mem 33 1) + 12) - 1) 12))) (qK (q_rb b) (P1)))
    (o3 : ∀ (r1 : Int), ∀ (m1 : qm), P1 r1 m1 → q_in32 r1 → q_in32 ((m1 33 2) - 1))
    (l4 : ∀ (r1 : Int), ∀ (m1 : qm), P1 r1 m1 → q_in32 r1 → Q 0 (q_up m1 33 2 ((m1 33 2) - 1))) :
    q_At yX3_bringBack cX3_bringBack 2 none 2 0 0 (qK (q_rb b) Q) 0 [(2, 33), (2, o)] [] (q_sh0, q_rb b, mem) := by
  refine q_aload_n dX3_bringBack_0 rfl rfl ?_
  refine q_aload_n dX3_bringBack_1 rfl rfl ?_
  refine qx_getI (ci := 3) (k := 1) (v := (mem 33 1)) dX3_bringBack_2 rfl rfl rfl tw193 rfl qs33 rfl ?_
  refine qx_bipush dX3_bringBack_5 rfl rfl ?_
  refine qx_iadd dX3_bringBack_7 (o1).1 ?_
  refine qx_iconst dX3_bringBack_8 rfl rfl ?_
  refine qx_isub dX3_bringBack_9 (o1).2.1 ?_
  refine qx_bipush dX3_bringBack_10 rfl rfl ?_
  refine q_irem dX3_bringBack_12 (by decide) ?_
  refine q_putI (ci := 3) (k := 1) (kI := 1) (ty := .int) dX3_bringBack_13 rfl (by decide) rfl tw193 rfl rfl rfl (fun _ => ⟨rfl, rfl⟩) qs33 ?_
  refine q_aload_n dX3_bringBack_16 rfl rfl ?_
  refine q_aload_n dX3_bringBack_17 rfl rfl ?_
  refine q_getR (ci := 3) (k := 0) dX3_bringBack_18 rfl (by decide) rfl tw192 (by decide) qs33 qw33_0 (by decide) ?_
  refine q_aload_n dX3_bringBack_21 rfl rfl ?_
  refine qx_getI (ci := 3) (k := 1) (v := (q_oirem (((mem 33 1) + 12) - 1) 12)) dX3_bringBack_22 rfl rfl rfl tw193 rfl qs33 q_up_s ?_
  have hst1 : q_st (35 + 9 * (q_oirem (((mem 33 1) + 12) - 1) 12)) := q_st34 ((o1).2.2)
  refine q_aald dX3_bringBack_25 qs34 ((o1).2.2).1 ((o1).2.2).2 (q_wt34 ((o1).2.2)) (by have := qst_nn hst1; omega) ?_
  refine qx_invV (ci := 7) [(2, (35 + 9 * (q_oirem (((mem 33 1) + 12) - 1) 12)))] [(2, (35 + 9 * (q_oirem (((mem 33 1) + 12) - 1) 12))), (2, o)] rfl qM_X7_copyWater dX3_bringBack_26 tw610 rfl (qst0 ho) rfl rfl rfl rfl (l2) (fun r1 m1 p1 q1 => ?_)
  refine q_aload_n dX3_bringBack_29 rfl rfl ?_
  refine q_dup dX3_bringBack_30 (fun h => by cases h) ?_
  refine qx_getI (ci := 3) (k := 2) (v := (m1 33 2)) dX3_bringBack_31 rfl rfl rfl tw194 rfl qs33 rfl ?_
  refine qx_iconst dX3_bringBack_34 rfl rfl ?_
  refine qx_isub dX3_bringBack_35 (o3 r1 m1 p1 q1) ?_
  refine q_putI (ci := 3) (k := 2) (kI := 2) (ty := .int) dX3_bringBack_36 rfl (by decide) rfl tw194 rfl rfl rfl (fun _ => ⟨rfl, rfl⟩) qs33 ?_
  exact q_vret dX3_bringBack_39 (qK_i (l4 r1 m1 p1 q1))
