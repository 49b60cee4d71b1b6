theorem dX4_firstSpot_0 : decode cX4_firstSpot 0 = .ok (.lconst 0, 1) := by decide +kernel
theorem dX4_firstSpot_1 : decode cX4_firstSpot 1 = .ok (.lstore_n 1, 1) := by decide +kernel
theorem dX4_firstSpot_2 : decode cX4_firstSpot 2 = .ok (.iconst 0, 1) := by decide +kernel
theorem dX4_firstSpot_3 : decode cX4_firstSpot 3 = .ok (.istore_n 3, 1) := by decide +kernel
theorem dX4_firstSpot_4 : decode cX4_firstSpot 4 = .ok (.iload_n 3, 1) := by decide +kernel
theorem dX4_firstSpot_5 : decode cX4_firstSpot 5 = .ok (.bipush 7, 2) := by decide +kernel
theorem dX4_firstSpot_7 : decode cX4_firstSpot 7 = .ok (.if_icmp .ge 37, 3) := by decide +kernel
theorem dX4_firstSpot_10 : decode cX4_firstSpot 10 = .ok (.lload_n 1, 1) := by decide +kernel
theorem dX4_firstSpot_11 : decode cX4_firstSpot 11 = .ok (.aload_n 0, 1) := by decide +kernel
theorem dX4_firstSpot_12 : decode cX4_firstSpot 12 = .ok (.getfield 11, 3) := by decide +kernel
theorem dX4_firstSpot_15 : decode cX4_firstSpot 15 = .ok (.aload_n 0, 1) := by decide +kernel
theorem dX4_firstSpot_16 : decode cX4_firstSpot 16 = .ok (.getfield 35, 3) := by decide +kernel
theorem dX4_firstSpot_19 : decode cX4_firstSpot 19 = .ok (.bipush 7, 2) := by decide +kernel
theorem dX4_firstSpot_21 : decode cX4_firstSpot 21 = .ok (.imul, 1) := by decide +kernel
theorem dX4_firstSpot_22 : decode cX4_firstSpot 22 = .ok (.iload_n 3, 1) := by decide +kernel
theorem dX4_firstSpot_23 : decode cX4_firstSpot 23 = .ok (.iadd, 1) := by decide +kernel
theorem dX4_firstSpot_24 : decode cX4_firstSpot 24 = .ok (.laload, 1) := by decide +kernel
theorem dX4_firstSpot_25 : decode cX4_firstSpot 25 = .ok (.lxor, 1) := by decide +kernel
theorem dX4_firstSpot_26 : decode cX4_firstSpot 26 = .ok (.ldc2_w 104, 3) := by decide +kernel
theorem dX4_firstSpot_29 : decode cX4_firstSpot 29 = .ok (.lmul, 1) := by decide +kernel
theorem dX4_firstSpot_30 : decode cX4_firstSpot 30 = .ok (.lstore_n 1, 1) := by decide +kernel
theorem dX4_firstSpot_31 : decode cX4_firstSpot 31 = .ok (.lload_n 1, 1) := by decide +kernel
theorem dX4_firstSpot_32 : decode cX4_firstSpot 32 = .ok (.lload_n 1, 1) := by decide +kernel
theorem dX4_firstSpot_33 : decode cX4_firstSpot 33 = .ok (.bipush 32, 2) := by decide +kernel
theorem dX4_firstSpot_35 : decode cX4_firstSpot 35 = .ok (.lushr, 1) := by decide +kernel
theorem dX4_firstSpot_36 : decode cX4_firstSpot 36 = .ok (.lxor, 1) := by decide +kernel
theorem dX4_firstSpot_37 : decode cX4_firstSpot 37 = .ok (.lstore_n 1, 1) := by decide +kernel
theorem dX4_firstSpot_38 : decode cX4_firstSpot 38 = .ok (.iinc 3 1, 3) := by decide +kernel
theorem dX4_firstSpot_41 : decode cX4_firstSpot 41 = .ok (.goto (-37), 3) := by decide +kernel
theorem dX4_firstSpot_44 : decode cX4_firstSpot 44 = .ok (.lload_n 1, 1) := by decide +kernel
theorem dX4_firstSpot_45 : decode cX4_firstSpot 45 = .ok (.ldc2_w 106, 3) := by decide +kernel
theorem dX4_firstSpot_48 : decode cX4_firstSpot 48 = .ok (.land, 1) := by decide +kernel
theorem dX4_firstSpot_49 : decode cX4_firstSpot 49 = .ok (.l2i, 1) := by decide +kernel
theorem dX4_firstSpot_50 : decode cX4_firstSpot 50 = .ok (.ireturn, 1) := by decide +kernel
theorem bkX4_firstSpot_0 {b : Int} {mem : qm} {Q : Int → qm → Prop}
    (l1 : q_At yX4_firstSpot cX4_firstSpot 4 (some .int) 1 0 0 (qK (q_rb b) Q) 4 [(2, 163), (1, 0), (4, 0), (0, 0)] [] (q_sh0, q_rb b, mem)) :
    q_At yX4_firstSpot cX4_firstSpot 4 (some .int) 1 0 0 (qK (q_rb b) Q) 0 [(2, 163), (4, 0), (4, 0), (4, 0)] [] (q_sh0, q_rb b, mem) := by
  refine q_lconst (v := 0) dX4_firstSpot_0 rfl ⟨by decide, by decide⟩ ?_
  refine qx_lstore_n (L' := [(2, 163), (1, 0), (4, 0), (4, 0)]) dX4_firstSpot_1 rfl rfl rfl rfl ?_
  refine qx_iconst dX4_firstSpot_2 rfl rfl ?_
  refine qx_istore_n (L' := [(2, 163), (1, 0), (4, 0), (0, 0)]) dX4_firstSpot_3 rfl rfl rfl rfl ?_
  exact l1
theorem bkX4_firstSpot_4 {b : Int} {mem : qm} {Q : Int → qm → Prop}
    {v1 v3 : Int}
    (l1 : 7 ≤ v3 → Q (q_ol2i (q_oland v1 4095)) mem)
    (o2 : v3 < 7 → q_in32 ((mem 163 5) * 7) ∧ q_in32 (((mem 163 5) * 7) + v3) ∧ (0 ≤ (((mem 163 5) * 7) + v3) ∧ (((mem 163 5) * 7) + v3) < 21007) ∧ q_in32 (v3 + 1))
    (l3 : v3 < 7 → q_At yX4_firstSpot cX4_firstSpot 4 (some .int) 1 0 0 (qK (q_rb b) Q) 4 [(2, 163), (1, (q_olxor (q_w64 ((q_olxor v1 (mem 164 (((mem 163 5) * 7) + v3))) * (-7046029254386353131))) (q_olushr (q_w64 ((q_olxor v1 (mem 164 (((mem 163 5) * 7) + v3))) * (-7046029254386353131))) 32))), (4, 0), (0, (v3 + 1))] [] (q_sh0, q_rb b, mem)) :
    q_At yX4_firstSpot cX4_firstSpot 4 (some .int) 1 0 0 (qK (q_rb b) Q) 4 [(2, 163), (1, v1), (4, 0), (0, v3)] [] (q_sh0, q_rb b, mem) := by
  refine q_iload_n dX4_firstSpot_4 rfl rfl ?_
  refine qx_bipush dX4_firstSpot_5 rfl rfl ?_
  refine qx_icmp_ge (tgt := 44) dX4_firstSpot_7 (by decide) (fun c1 => ?_) (fun c1 => ?_)
  · skip
    refine q_lload_n dX4_firstSpot_44 rfl rfl ?_
    refine q_ldc2 (v := 4095) dX4_firstSpot_45 tw887 rfl ⟨by decide, by decide⟩ ?_
    refine q_land dX4_firstSpot_48 ?_
    refine q_l2i dX4_firstSpot_49 ?_
    exact q_iret dX4_firstSpot_50 (qK_i (l1 c1))
  · skip
    refine q_lload_n dX4_firstSpot_10 rfl rfl ?_
    refine q_aload_n dX4_firstSpot_11 rfl rfl ?_
    refine q_getR (ci := 4) (k := 1) dX4_firstSpot_12 rfl (by decide) rfl tw330 (by decide) qs163 qw163_1 (by decide) ?_
    refine q_aload_n dX4_firstSpot_15 rfl rfl ?_
    refine qx_getI (ci := 4) (k := 5) (v := (mem 163 5)) dX4_firstSpot_16 rfl rfl rfl tw334 rfl qs163 rfl ?_
    refine qx_bipush dX4_firstSpot_19 rfl rfl ?_
    refine qx_imul dX4_firstSpot_21 (o2 c1).1 ?_
    refine q_iload_n dX4_firstSpot_22 rfl rfl ?_
    refine qx_iadd dX4_firstSpot_23 (o2 c1).2.1 ?_
    refine qx_lald (v := (mem 164 (((mem 163 5) * 7) + v3))) dX4_firstSpot_24 qs164 (o2 c1).2.2.1 rfl ?_
    refine q_lxor dX4_firstSpot_25 ?_
    refine q_ldc2 (v := (-7046029254386353131)) dX4_firstSpot_26 tw886 rfl ⟨by decide, by decide⟩ ?_
    refine q_lmul dX4_firstSpot_29 ?_
    refine qx_lstore_n (L' := [(2, 163), (1, (q_w64 ((q_olxor v1 (mem 164 (((mem 163 5) * 7) + v3))) * (-7046029254386353131)))), (4, 0), (0, v3)]) dX4_firstSpot_30 rfl rfl rfl rfl ?_
    refine q_lload_n dX4_firstSpot_31 rfl rfl ?_
    refine q_lload_n dX4_firstSpot_32 rfl rfl ?_
    refine qx_bipush dX4_firstSpot_33 rfl rfl ?_
    refine q_lushr dX4_firstSpot_35 ?_
    refine q_lxor dX4_firstSpot_36 ?_
    refine qx_lstore_n (L' := [(2, 163), (1, (q_olxor (q_w64 ((q_olxor v1 (mem 164 (((mem 163 5) * 7) + v3))) * (-7046029254386353131))) (q_olushr (q_w64 ((q_olxor v1 (mem 164 (((mem 163 5) * 7) + v3))) * (-7046029254386353131))) 32))), (4, 0), (0, v3)]) dX4_firstSpot_37 rfl rfl rfl rfl ?_
    refine qx_iinc (L' := [(2, 163), (1, (q_olxor (q_w64 ((q_olxor v1 (mem 164 (((mem 163 5) * 7) + v3))) * (-7046029254386353131))) (q_olushr (q_w64 ((q_olxor v1 (mem 164 (((mem 163 5) * 7) + v3))) * (-7046029254386353131))) 32))), (4, 0), (0, (v3 + 1))]) dX4_firstSpot_38 rfl rfl rfl (o2 c1).2.2.2 rfl ?_
    refine q_goto (tgt := 4) dX4_firstSpot_41 (by decide) ?_
    exact l3 c1
theorem dX4_isLike_0 : decode cX4_isLike 0 = .ok (.iconst 0, 1) := by decide +kernel
theorem dX4_isLike_1 : decode cX4_isLike 1 = .ok (.istore_n 2, 1) := by decide +kernel
theorem dX4_isLike_2 : decode cX4_isLike 2 = .ok (.iload_n 2, 1) := by decide +kernel
theorem dX4_isLike_3 : decode cX4_isLike 3 = .ok (.bipush 7, 2) := by decide +kernel
theorem dX4_isLike_5 : decode cX4_isLike 5 = .ok (.if_icmp .ge 40, 3) := by decide +kernel
theorem dX4_isLike_8 : decode cX4_isLike 8 = .ok (.aload_n 0, 1) := by decide +kernel
theorem dX4_isLike_9 : decode cX4_isLike 9 = .ok (.getfield 11, 3) := by decide +kernel
theorem dX4_isLike_12 : decode cX4_isLike 12 = .ok (.iload_n 1, 1) := by decide +kernel
theorem dX4_isLike_13 : decode cX4_isLike 13 = .ok (.bipush 7, 2) := by decide +kernel
theorem dX4_isLike_15 : decode cX4_isLike 15 = .ok (.imul, 1) := by decide +kernel
theorem dX4_isLike_16 : decode cX4_isLike 16 = .ok (.iload_n 2, 1) := by decide +kernel
theorem dX4_isLike_17 : decode cX4_isLike 17 = .ok (.iadd, 1) := by decide +kernel
theorem dX4_isLike_18 : decode cX4_isLike 18 = .ok (.laload, 1) := by decide +kernel
theorem dX4_isLike_19 : decode cX4_isLike 19 = .ok (.aload_n 0, 1) := by decide +kernel
theorem dX4_isLike_20 : decode cX4_isLike 20 = .ok (.getfield 11, 3) := by decide +kernel
theorem dX4_isLike_23 : decode cX4_isLike 23 = .ok (.aload_n 0, 1) := by decide +kernel
theorem dX4_isLike_24 : decode cX4_isLike 24 = .ok (.getfield 35, 3) := by decide +kernel
theorem dX4_isLike_27 : decode cX4_isLike 27 = .ok (.bipush 7, 2) := by decide +kernel
theorem dX4_isLike_29 : decode cX4_isLike 29 = .ok (.imul, 1) := by decide +kernel
theorem dX4_isLike_30 : decode cX4_isLike 30 = .ok (.iload_n 2, 1) := by decide +kernel
theorem dX4_isLike_31 : decode cX4_isLike 31 = .ok (.iadd, 1) := by decide +kernel
theorem dX4_isLike_32 : decode cX4_isLike 32 = .ok (.laload, 1) := by decide +kernel
theorem dX4_isLike_33 : decode cX4_isLike 33 = .ok (.lcmp, 1) := by decide +kernel
theorem dX4_isLike_34 : decode cX4_isLike 34 = .ok (.ifCond .eq 5, 3) := by decide +kernel
theorem dX4_isLike_37 : decode cX4_isLike 37 = .ok (.iconst 0, 1) := by decide +kernel
theorem dX4_isLike_38 : decode cX4_isLike 38 = .ok (.ireturn, 1) := by decide +kernel
theorem dX4_isLike_39 : decode cX4_isLike 39 = .ok (.iinc 2 1, 3) := by decide +kernel
theorem dX4_isLike_42 : decode cX4_isLike 42 = .ok (.goto (-40), 3) := by decide +kernel
theorem dX4_isLike_45 : decode cX4_isLike 45 = .ok (.iconst 1, 1) := by decide +kernel
theorem dX4_isLike_46 : decode cX4_isLike 46 = .ok (.ireturn, 1) := by decide +kernel
theorem bkX4_isLike_0 {b : Int} {mem : qm} {Q : Int → qm → Prop}
    {v : Int}
    (l1 : q_At yX4_isLike cX4_isLike 3 (some .boolean) 1 0 0 (qK (q_rb b) Q) 2 [(2, 163), (0, v), (0, 0)] [] (q_sh0, q_rb b, mem)) :
    q_At yX4_isLike cX4_isLike 3 (some .boolean) 1 0 0 (qK (q_rb b) Q) 0 [(2, 163), (0, v), (4, 0)] [] (q_sh0, q_rb b, mem) := by
  refine qx_iconst dX4_isLike_0 rfl rfl ?_
  refine qx_istore_n (L' := [(2, 163), (0, v), (0, 0)]) dX4_isLike_1 rfl rfl rfl rfl ?_
  exact l1
theorem bkX4_isLike_2 {b : Int} {mem : qm} {Q : Int → qm → Prop}
    {v v2 : Int}
    (l1 : 7 ≤ v2 → Q 1 mem)
    (o2 : v2 < 7 → q_in32 (v * 7) ∧ q_in32 ((v * 7) + v2) ∧ (0 ≤ ((v * 7) + v2) ∧ ((v * 7) + v2) < 21007) ∧ q_in32 ((mem 163 5) * 7) ∧ q_in32 (((mem 163 5) * 7) + v2) ∧ (0 ≤ (((mem 163 5) * 7) + v2) ∧ (((mem 163 5) * 7) + v2) < 21007))
    (o3 : v2 < 7 → (q_olcmp (mem 164 ((v * 7) + v2)) (mem 164 (((mem 163 5) * 7) + v2))) = 0 → q_in32 (v2 + 1))
    (l4 : v2 < 7 → (q_olcmp (mem 164 ((v * 7) + v2)) (mem 164 (((mem 163 5) * 7) + v2))) = 0 → q_At yX4_isLike cX4_isLike 3 (some .boolean) 1 0 0 (qK (q_rb b) Q) 2 [(2, 163), (0, v), (0, (v2 + 1))] [] (q_sh0, q_rb b, mem))
    (l5 : v2 < 7 → (q_olcmp (mem 164 ((v * 7) + v2)) (mem 164 (((mem 163 5) * 7) + v2))) ≠ 0 → Q 0 mem) :
    q_At yX4_isLike cX4_isLike 3 (some .boolean) 1 0 0 (qK (q_rb b) Q) 2 [(2, 163), (0, v), (0, v2)] [] (q_sh0, q_rb b, mem) := by
  refine q_iload_n dX4_isLike_2 rfl rfl ?_
  refine qx_bipush dX4_isLike_3 rfl rfl ?_
  refine qx_icmp_ge (tgt := 45) dX4_isLike_5 (by decide) (fun c1 => ?_) (fun c1 => ?_)
  · skip
    refine qx_iconst dX4_isLike_45 rfl rfl ?_
    exact q_zret dX4_isLike_46 (by decide) (qK_i (l1 c1))
  · skip
    refine q_aload_n dX4_isLike_8 rfl rfl ?_
    refine q_getR (ci := 4) (k := 1) dX4_isLike_9 rfl (by decide) rfl tw330 (by decide) qs163 qw163_1 (by decide) ?_
    refine q_iload_n dX4_isLike_12 rfl rfl ?_
    refine qx_bipush dX4_isLike_13 rfl rfl ?_
    refine qx_imul dX4_isLike_15 (o2 c1).1 ?_
    refine q_iload_n dX4_isLike_16 rfl rfl ?_
    refine qx_iadd dX4_isLike_17 (o2 c1).2.1 ?_
    refine qx_lald (v := (mem 164 ((v * 7) + v2))) dX4_isLike_18 qs164 (o2 c1).2.2.1 rfl ?_
    refine q_aload_n dX4_isLike_19 rfl rfl ?_
    refine q_getR (ci := 4) (k := 1) dX4_isLike_20 rfl (by decide) rfl tw330 (by decide) qs163 qw163_1 (by decide) ?_
    refine q_aload_n dX4_isLike_23 rfl rfl ?_
    refine qx_getI (ci := 4) (k := 5) (v := (mem 163 5)) dX4_isLike_24 rfl rfl rfl tw334 rfl qs163 rfl ?_
    refine qx_bipush dX4_isLike_27 rfl rfl ?_
    refine qx_imul dX4_isLike_29 (o2 c1).2.2.2.1 ?_
    refine q_iload_n dX4_isLike_30 rfl rfl ?_
    refine qx_iadd dX4_isLike_31 (o2 c1).2.2.2.2.1 ?_
    refine qx_lald (v := (mem 164 (((mem 163 5) * 7) + v2))) dX4_isLike_32 qs164 (o2 c1).2.2.2.2.2 rfl ?_
    refine q_lcmp dX4_isLike_33 ?_
    refine qx_if_eq (tgt := 39) dX4_isLike_34 (by decide) (fun c2 => ?_) (fun c2 => ?_)
    · skip
      refine qx_iinc (L' := [(2, 163), (0, v), (0, (v2 + 1))]) dX4_isLike_39 rfl rfl rfl (o3 c1 c2) rfl ?_
      refine q_goto (tgt := 2) dX4_isLike_42 (by decide) ?_
      exact l4 c1 c2
    · skip
      refine qx_iconst dX4_isLike_37 rfl rfl ?_
      exact q_zret dX4_isLike_38 (by decide) (qK_i (l5 c1 c2))
theorem dX4_findSpot_0 : decode cX4_findSpot 0 = .ok (.aload_n 0, 1) := by decide +kernel
theorem dX4_findSpot_1 : decode cX4_findSpot 1 = .ok (.invokevirtual 98, 3) := by decide +kernel
theorem dX4_findSpot_4 : decode cX4_findSpot 4 = .ok (.istore_n 1, 1) := by decide +kernel
theorem dX4_findSpot_5 : decode cX4_findSpot 5 = .ok (.iconst 0, 1) := by decide +kernel
theorem dX4_findSpot_6 : decode cX4_findSpot 6 = .ok (.istore_n 2, 1) := by decide +kernel
theorem dX4_findSpot_7 : decode cX4_findSpot 7 = .ok (.iload_n 2, 1) := by decide +kernel
theorem dX4_findSpot_8 : decode cX4_findSpot 8 = .ok (.sipush 4096, 3) := by decide +kernel
theorem dX4_findSpot_11 : decode cX4_findSpot 11 = .ok (.if_icmp .ge 41, 3) := by decide +kernel
theorem dX4_findSpot_14 : decode cX4_findSpot 14 = .ok (.aload_n 0, 1) := by decide +kernel
theorem dX4_findSpot_15 : decode cX4_findSpot 15 = .ok (.getfield 22, 3) := by decide +kernel
theorem dX4_findSpot_18 : decode cX4_findSpot 18 = .ok (.iload_n 1, 1) := by decide +kernel
theorem dX4_findSpot_19 : decode cX4_findSpot 19 = .ok (.iaload, 1) := by decide +kernel
theorem dX4_findSpot_20 : decode cX4_findSpot 20 = .ok (.ifCond .eq 32, 3) := by decide +kernel
theorem dX4_findSpot_23 : decode cX4_findSpot 23 = .ok (.aload_n 0, 1) := by decide +kernel
theorem dX4_findSpot_24 : decode cX4_findSpot 24 = .ok (.aload_n 0, 1) := by decide +kernel
theorem dX4_findSpot_25 : decode cX4_findSpot 25 = .ok (.getfield 22, 3) := by decide +kernel
theorem dX4_findSpot_28 : decode cX4_findSpot 28 = .ok (.iload_n 1, 1) := by decide +kernel
theorem dX4_findSpot_29 : decode cX4_findSpot 29 = .ok (.iaload, 1) := by decide +kernel
theorem dX4_findSpot_30 : decode cX4_findSpot 30 = .ok (.iconst 1, 1) := by decide +kernel
theorem dX4_findSpot_31 : decode cX4_findSpot 31 = .ok (.isub, 1) := by decide +kernel
theorem dX4_findSpot_32 : decode cX4_findSpot 32 = .ok (.invokevirtual 101, 3) := by decide +kernel
theorem dX4_findSpot_35 : decode cX4_findSpot 35 = .ok (.ifCond .ne 17, 3) := by decide +kernel
theorem dX4_findSpot_38 : decode cX4_findSpot 38 = .ok (.iload_n 1, 1) := by decide +kernel
theorem dX4_findSpot_39 : decode cX4_findSpot 39 = .ok (.iconst 1, 1) := by decide +kernel
theorem dX4_findSpot_40 : decode cX4_findSpot 40 = .ok (.iadd, 1) := by decide +kernel
theorem dX4_findSpot_41 : decode cX4_findSpot 41 = .ok (.sipush 4096, 3) := by decide +kernel
theorem dX4_findSpot_44 : decode cX4_findSpot 44 = .ok (.irem, 1) := by decide +kernel
theorem dX4_findSpot_45 : decode cX4_findSpot 45 = .ok (.istore_n 1, 1) := by decide +kernel
theorem dX4_findSpot_46 : decode cX4_findSpot 46 = .ok (.iinc 2 1, 3) := by decide +kernel
theorem dX4_findSpot_49 : decode cX4_findSpot 49 = .ok (.goto (-42), 3) := by decide +kernel
theorem dX4_findSpot_52 : decode cX4_findSpot 52 = .ok (.iload_n 1, 1) := by decide +kernel
theorem dX4_findSpot_53 : decode cX4_findSpot 53 = .ok (.ireturn, 1) := by decide +kernel
theorem bkX4_findSpot_0 {b : Int} {mem : qm} {Q : Int → qm → Prop}
    {P1 : Int → qm → Prop}
    (l1 : q_Ev yX4_firstSpot cX4_firstSpot 4 (some .int) 1 0 0 [(2, 163)] (q_sh0, q_rb b, mem) (qK (q_rb b) (P1)))
    (l2 : ∀ (r1 : Int), ∀ (m1 : qm), P1 r1 m1 → q_in32 r1 → q_At yX4_findSpot cX4_findSpot 3 (some .int) 2 0 0 (qK (q_rb b) Q) 7 [(2, 163), (0, r1), (0, 0)] [] (q_sh0, q_rb b, m1)) :
    q_At yX4_findSpot cX4_findSpot 3 (some .int) 2 0 0 (qK (q_rb b) Q) 0 [(2, 163), (4, 0), (4, 0)] [] (q_sh0, q_rb b, mem) := by
  refine q_aload_n dX4_findSpot_0 rfl rfl ?_
  refine qx_invV (ci := 4) [] [(2, 163)] rfl qM_X4_firstSpot dX4_findSpot_1 tw882 rfl qs163 rfl rfl rfl rfl (l1) (fun r1 m1 p1 q1 => ?_)
  refine qx_istore_n (L' := [(2, 163), (0, r1), (4, 0)]) dX4_findSpot_4 rfl rfl rfl rfl ?_
  refine qx_iconst dX4_findSpot_5 rfl rfl ?_
  refine qx_istore_n (L' := [(2, 163), (0, r1), (0, 0)]) dX4_findSpot_6 rfl rfl rfl rfl ?_
  exact l2 r1 m1 p1 q1
theorem bkX4_findSpot_7 {b : Int} {mem : qm} {Q : Int → qm → Prop}
    {v1 v2 : Int}
    (l1 : 4096 ≤ v2 → Q v1 mem)
    (o2 : v2 < 4096 → (0 ≤ v1 ∧ v1 < 4096))
    (l3 : v2 < 4096 → (mem 167 v1) = 0 → Q v1 mem)
    (o4 : v2 < 4096 → (mem 167 v1) ≠ 0 → q_in32 ((mem 167 v1) - 1))
    {P3 : Int → qm → Prop}
    (l5 : v2 < 4096 → (mem 167 v1) ≠ 0 → q_Ev yX4_isLike cX4_isLike 3 (some .boolean) 1 0 0 [(2, 163), (0, ((mem 167 v1) - 1))] (q_sh0, q_rb b, mem) (qK (q_rb b) (P3)))
    (l6 : v2 < 4096 → (mem 167 v1) ≠ 0 → ∀ (r3 : Int), ∀ (m3 : qm), P3 r3 m3 → q_in32 r3 → r3 ≠ 0 → Q v1 m3)
    (o7 : v2 < 4096 → (mem 167 v1) ≠ 0 → ∀ (r3 : Int), ∀ (m3 : qm), P3 r3 m3 → q_in32 r3 → r3 = 0 → q_in32 (v1 + 1) ∧ q_in32 (v2 + 1))
    (l8 : v2 < 4096 → (mem 167 v1) ≠ 0 → ∀ (r3 : Int), ∀ (m3 : qm), P3 r3 m3 → q_in32 r3 → r3 = 0 → q_At yX4_findSpot cX4_findSpot 3 (some .int) 2 0 0 (qK (q_rb b) Q) 7 [(2, 163), (0, (q_oirem (v1 + 1) 4096)), (0, (v2 + 1))] [] (q_sh0, q_rb b, m3)) :
    q_At yX4_findSpot cX4_findSpot 3 (some .int) 2 0 0 (qK (q_rb b) Q) 7 [(2, 163), (0, v1), (0, v2)] [] (q_sh0, q_rb b, mem) := by
  refine q_iload_n dX4_findSpot_7 rfl rfl ?_
  refine qx_sipush dX4_findSpot_8 rfl rfl ?_
  refine qx_icmp_ge (tgt := 52) dX4_findSpot_11 (by decide) (fun c1 => ?_) (fun c1 => ?_)
  · skip
    refine q_iload_n dX4_findSpot_52 rfl rfl ?_
    exact q_iret dX4_findSpot_53 (qK_i (l1 c1))
  · skip
    refine q_aload_n dX4_findSpot_14 rfl rfl ?_
    refine q_getR (ci := 4) (k := 4) dX4_findSpot_15 rfl (by decide) rfl tw333 (by decide) qs163 qw163_4 (by decide) ?_
    refine q_iload_n dX4_findSpot_18 rfl rfl ?_
    refine qx_iald (v := (mem 167 v1)) dX4_findSpot_19 qs167 (o2 c1) rfl ?_
    refine qx_if_eq (tgt := 52) dX4_findSpot_20 (by decide) (fun c2 => ?_) (fun c2 => ?_)
    · skip
      refine q_iload_n dX4_findSpot_52 rfl rfl ?_
      exact q_iret dX4_findSpot_53 (qK_i (l3 c1 c2))
    · skip
      refine q_aload_n dX4_findSpot_23 rfl rfl ?_
      refine q_aload_n dX4_findSpot_24 rfl rfl ?_
      refine q_getR (ci := 4) (k := 4) dX4_findSpot_25 rfl (by decide) rfl tw333 (by decide) qs163 qw163_4 (by decide) ?_
      refine q_iload_n dX4_findSpot_28 rfl rfl ?_
      refine qx_iald (v := (mem 167 v1)) dX4_findSpot_29 qs167 (o2 c1) rfl ?_
      refine qx_iconst dX4_findSpot_30 rfl rfl ?_
      refine qx_isub dX4_findSpot_31 (o4 c1 c2) ?_
      refine qx_invV (ci := 4) [(0, ((mem 167 v1) - 1))] [(0, ((mem 167 v1) - 1)), (2, 163)] rfl qM_X4_isLike dX4_findSpot_32 tw888 rfl qs163 rfl rfl rfl rfl (l5 c1 c2) (fun r3 m3 p3 q3 => ?_)
      refine qx_if_ne (tgt := 52) dX4_findSpot_35 (by decide) (fun c4 => ?_) (fun c4 => ?_)
      · skip
        refine q_iload_n dX4_findSpot_52 rfl rfl ?_
        exact q_iret dX4_findSpot_53 (qK_i (l6 c1 c2 r3 m3 p3 q3 c4))
      · skip
        refine q_iload_n dX4_findSpot_38 rfl rfl ?_
        refine qx_iconst dX4_findSpot_39 rfl rfl ?_
        refine qx_iadd dX4_findSpot_40 (o7 c1 c2 r3 m3 p3 q3 c4).1 ?_
        refine qx_sipush dX4_findSpot_41 rfl rfl ?_
        refine q_irem dX4_findSpot_44 (by decide) ?_
        refine qx_istore_n (L' := [(2, 163), (0, (q_oirem (v1 + 1) 4096)), (0, v2)]) dX4_findSpot_45 rfl rfl rfl rfl ?_
        refine qx_iinc (L' := [(2, 163), (0, (q_oirem (v1 + 1) 4096)), (0, (v2 + 1))]) dX4_findSpot_46 rfl rfl rfl (o7 c1 c2 r3 m3 p3 q3 c4).2 rfl ?_
        refine q_goto (tgt := 7) dX4_findSpot_49 (by decide) ?_
        exact l8 c1 c2 r3 m3 p3 q3 c4
theorem dX4_enter_0 : decode cX4_enter 0 = .ok (.aload_n 0, 1) := by decide +kernel
theorem dX4_enter_1 : decode cX4_enter 1 = .ok (.invokevirtual 94, 3) := by decide +kernel
theorem dX4_enter_4 : decode cX4_enter 4 = .ok (.istore_n 3, 1) := by decide +kernel
theorem dX4_enter_5 : decode cX4_enter 5 = .ok (.aload_n 0, 1) := by decide +kernel
theorem dX4_enter_6 : decode cX4_enter 6 = .ok (.getfield 22, 3) := by decide +kernel
theorem dX4_enter_9 : decode cX4_enter 9 = .ok (.iload_n 3, 1) := by decide +kernel
theorem dX4_enter_10 : decode cX4_enter 10 = .ok (.iaload, 1) := by decide +kernel
theorem dX4_enter_11 : decode cX4_enter 11 = .ok (.ifCond .eq 5, 3) := by decide +kernel
theorem dX4_enter_14 : decode cX4_enter 14 = .ok (.iconst 1, 1) := by decide +kernel
theorem dX4_enter_15 : decode cX4_enter 15 = .ok (.ireturn, 1) := by decide +kernel
theorem dX4_enter_16 : decode cX4_enter 16 = .ok (.aload_n 0, 1) := by decide +kernel
theorem dX4_enter_17 : decode cX4_enter 17 = .ok (.getfield 35, 3) := by decide +kernel
theorem dX4_enter_20 : decode cX4_enter 20 = .ok (.sipush 3000, 3) := by decide +kernel
theorem dX4_enter_23 : decode cX4_enter 23 = .ok (.if_icmp .lt 5, 3) := by decide +kernel
theorem dX4_enter_26 : decode cX4_enter 26 = .ok (.iconst 0, 1) := by decide +kernel
theorem dX4_enter_27 : decode cX4_enter 27 = .ok (.ireturn, 1) := by decide +kernel
theorem dX4_enter_28 : decode cX4_enter 28 = .ok (.aload_n 0, 1) := by decide +kernel
theorem dX4_enter_29 : decode cX4_enter 29 = .ok (.getfield 15, 3) := by decide +kernel
theorem dX4_enter_32 : decode cX4_enter 32 = .ok (.aload_n 0, 1) := by decide +kernel
theorem dX4_enter_33 : decode cX4_enter 33 = .ok (.getfield 35, 3) := by decide +kernel
theorem dX4_enter_36 : decode cX4_enter 36 = .ok (.iload_n 1, 1) := by decide +kernel
theorem dX4_enter_37 : decode cX4_enter 37 = .ok (.iastore, 1) := by decide +kernel
theorem dX4_enter_38 : decode cX4_enter 38 = .ok (.aload_n 0, 1) := by decide +kernel
theorem dX4_enter_39 : decode cX4_enter 39 = .ok (.getfield 19, 3) := by decide +kernel
theorem dX4_enter_42 : decode cX4_enter 42 = .ok (.aload_n 0, 1) := by decide +kernel
theorem dX4_enter_43 : decode cX4_enter 43 = .ok (.getfield 35, 3) := by decide +kernel
theorem dX4_enter_46 : decode cX4_enter 46 = .ok (.iload_n 2, 1) := by decide +kernel
theorem dX4_enter_47 : decode cX4_enter 47 = .ok (.iastore, 1) := by decide +kernel
theorem dX4_enter_48 : decode cX4_enter 48 = .ok (.aload_n 0, 1) := by decide +kernel
theorem dX4_enter_49 : decode cX4_enter 49 = .ok (.dup, 1) := by decide +kernel
theorem dX4_enter_50 : decode cX4_enter 50 = .ok (.getfield 35, 3) := by decide +kernel
theorem dX4_enter_53 : decode cX4_enter 53 = .ok (.iconst 1, 1) := by decide +kernel
theorem dX4_enter_54 : decode cX4_enter 54 = .ok (.iadd, 1) := by decide +kernel
theorem dX4_enter_55 : decode cX4_enter 55 = .ok (.putfield 35, 3) := by decide +kernel
theorem dX4_enter_58 : decode cX4_enter 58 = .ok (.aload_n 0, 1) := by decide +kernel
theorem dX4_enter_59 : decode cX4_enter 59 = .ok (.getfield 22, 3) := by decide +kernel
theorem dX4_enter_62 : decode cX4_enter 62 = .ok (.iload_n 3, 1) := by decide +kernel
theorem dX4_enter_63 : decode cX4_enter 63 = .ok (.aload_n 0, 1) := by decide +kernel
theorem dX4_enter_64 : decode cX4_enter 64 = .ok (.getfield 35, 3) := by decide +kernel
theorem dX4_enter_67 : decode cX4_enter 67 = .ok (.iastore, 1) := by decide +kernel
theorem dX4_enter_68 : decode cX4_enter 68 = .ok (.iconst 1, 1) := by decide +kernel
theorem dX4_enter_69 : decode cX4_enter 69 = .ok (.ireturn, 1) := by decide +kernel
theorem bkX4_enter_0 {b : Int} {mem : qm} {Q : Int → qm → Prop}
    {v w : Int}
    {P1 : Int → qm → Prop}
    (l1 : q_Ev yX4_findSpot cX4_findSpot 3 (some .int) 2 0 0 [(2, 163)] (q_sh0, q_rb b, mem) (qK (q_rb b) (P1)))
    (o2 : ∀ (r1 : Int), ∀ (m1 : qm), P1 r1 m1 → q_in32 r1 → (0 ≤ r1 ∧ r1 < 4096))
    (o3 : ∀ (r1 : Int), ∀ (m1 : qm), P1 r1 m1 → q_in32 r1 → (m1 167 r1) = 0 → (m1 163 5) < 3000 → (0 ≤ (m1 163 5) ∧ (m1 163 5) < 3000) ∧ q_in32 ((m1 163 5) + 1))
    (l4 : ∀ (r1 : Int), ∀ (m1 : qm), P1 r1 m1 → q_in32 r1 → (m1 167 r1) = 0 → (m1 163 5) < 3000 → Q 1 (q_up (q_up (q_up (q_up m1 165 (m1 163 5) v) 166 (m1 163 5) w) 163 5 ((m1 163 5) + 1)) 167 r1 ((m1 163 5) + 1)))
    (l5 : ∀ (r1 : Int), ∀ (m1 : qm), P1 r1 m1 → q_in32 r1 → (m1 167 r1) = 0 → 3000 ≤ (m1 163 5) → Q 0 m1)
    (l6 : ∀ (r1 : Int), ∀ (m1 : qm), P1 r1 m1 → q_in32 r1 → (m1 167 r1) ≠ 0 → Q 1 m1) :
    q_At yX4_enter cX4_enter 4 (some .boolean) 3 0 0 (qK (q_rb b) Q) 0 [(2, 163), (0, v), (0, w), (4, 0)] [] (q_sh0, q_rb b, mem) := by
  refine q_aload_n dX4_enter_0 rfl rfl ?_
  refine qx_invV (ci := 4) [] [(2, 163)] rfl qM_X4_findSpot dX4_enter_1 tw878 rfl qs163 rfl rfl rfl rfl (l1) (fun r1 m1 p1 q1 => ?_)
  refine qx_istore_n (L' := [(2, 163), (0, v), (0, w), (0, r1)]) dX4_enter_4 rfl rfl rfl rfl ?_
  refine q_aload_n dX4_enter_5 rfl rfl ?_
  refine q_getR (ci := 4) (k := 4) dX4_enter_6 rfl (by decide) rfl tw333 (by decide) qs163 qw163_4 (by decide) ?_
  refine q_iload_n dX4_enter_9 rfl rfl ?_
  refine qx_iald (v := (m1 167 r1)) dX4_enter_10 qs167 (o2 r1 m1 p1 q1) rfl ?_
  refine qx_if_eq (tgt := 16) dX4_enter_11 (by decide) (fun c2 => ?_) (fun c2 => ?_)
  · skip
    refine q_aload_n dX4_enter_16 rfl rfl ?_
    refine qx_getI (ci := 4) (k := 5) (v := (m1 163 5)) dX4_enter_17 rfl rfl rfl tw334 rfl qs163 rfl ?_
    refine qx_sipush dX4_enter_20 rfl rfl ?_
    refine qx_icmp_lt (tgt := 28) dX4_enter_23 (by decide) (fun c3 => ?_) (fun c3 => ?_)
    · skip
      refine q_aload_n dX4_enter_28 rfl rfl ?_
      refine q_getR (ci := 4) (k := 2) dX4_enter_29 rfl (by decide) rfl tw331 (by decide) qs163 qw163_2 (by decide) ?_
      refine q_aload_n dX4_enter_32 rfl rfl ?_
      refine qx_getI (ci := 4) (k := 5) (v := (m1 163 5)) dX4_enter_33 rfl rfl rfl tw334 rfl qs163 rfl ?_
      refine q_iload_n dX4_enter_36 rfl rfl ?_
      refine q_iast dX4_enter_37 qs165 ((o3 r1 m1 p1 q1 c2 c3).1).1 ((o3 r1 m1 p1 q1 c2 c3).1).2 ?_
      refine q_aload_n dX4_enter_38 rfl rfl ?_
      refine q_getR (ci := 4) (k := 3) dX4_enter_39 rfl (by decide) rfl tw332 (by decide) qs163 qw163_3 (by decide) ?_
      refine q_aload_n dX4_enter_42 rfl rfl ?_
      refine qx_getI (ci := 4) (k := 5) (v := (m1 163 5)) dX4_enter_43 rfl rfl rfl tw334 rfl qs163 (q_up_c (by decide)) ?_
      refine q_iload_n dX4_enter_46 rfl rfl ?_
      refine q_iast dX4_enter_47 qs166 ((o3 r1 m1 p1 q1 c2 c3).1).1 ((o3 r1 m1 p1 q1 c2 c3).1).2 ?_
      refine q_aload_n dX4_enter_48 rfl rfl ?_
      refine q_dup dX4_enter_49 (fun h => by cases h) ?_
      refine qx_getI (ci := 4) (k := 5) (v := (m1 163 5)) dX4_enter_50 rfl rfl rfl tw334 rfl qs163 ((q_up_c (by decide)).trans (q_up_c (by decide))) ?_
      refine qx_iconst dX4_enter_53 rfl rfl ?_
      refine qx_iadd dX4_enter_54 (o3 r1 m1 p1 q1 c2 c3).2 ?_
      refine q_putI (ci := 4) (k := 5) (kI := 5) (ty := .int) dX4_enter_55 rfl (by decide) rfl tw334 rfl rfl rfl (fun _ => ⟨rfl, rfl⟩) qs163 ?_
      refine q_aload_n dX4_enter_58 rfl rfl ?_
      refine q_getR (ci := 4) (k := 4) dX4_enter_59 rfl (by decide) rfl tw333 (by decide) qs163 qw163_4 (by decide) ?_
      refine q_iload_n dX4_enter_62 rfl rfl ?_
      refine q_aload_n dX4_enter_63 rfl rfl ?_
      refine qx_getI (ci := 4) (k := 5) (v := ((m1 163 5) + 1)) dX4_enter_64 rfl rfl rfl tw334 rfl qs163 q_up_s ?_
      refine q_iast dX4_enter_67 qs167 ((o2 r1 m1 p1 q1)).1 ((o2 r1 m1 p1 q1)).2 ?_
      refine qx_iconst dX4_enter_68 rfl rfl ?_
      exact q_zret dX4_enter_69 (by decide) (qK_i (l4 r1 m1 p1 q1 c2 c3))
    · skip
      refine qx_iconst dX4_enter_26 rfl rfl ?_
      exact q_zret dX4_enter_27 (by decide) (qK_i (l5 r1 m1 p1 q1 c2 c3))
  · skip
    refine qx_iconst dX4_enter_14 rfl rfl ?_
    exact q_zret dX4_enter_15 (by decide) (qK_i (l6 r1 m1 p1 q1 c2))
theorem dX4_writeStart_0 : decode cX4_writeStart 0 = .ok (.lconst 0, 1) := by decide +kernel
theorem dX4_writeStart_1 : decode cX4_writeStart 1 = .ok (.lstore_n 2, 1) := by decide +kernel
theorem dX4_writeStart_2 : decode cX4_writeStart 2 = .ok (.iconst 0, 1) := by decide +kernel
theorem dX4_writeStart_3 : decode cX4_writeStart 3 = .ok (.istore 4, 2) := by decide +kernel
theorem dX4_writeStart_5 : decode cX4_writeStart 5 = .ok (.iload 4, 2) := by decide +kernel
theorem dX4_writeStart_7 : decode cX4_writeStart 7 = .ok (.aload_n 0, 1) := by decide +kernel
theorem dX4_writeStart_8 : decode cX4_writeStart 8 = .ok (.getfield 25, 3) := by decide +kernel
theorem dX4_writeStart_11 : decode cX4_writeStart 11 = .ok (.getfield 54, 3) := by decide +kernel
theorem dX4_writeStart_14 : decode cX4_writeStart 14 = .ok (.if_icmp .ge 26, 3) := by decide +kernel
theorem dX4_writeStart_17 : decode cX4_writeStart 17 = .ok (.lload_n 2, 1) := by decide +kernel
theorem dX4_writeStart_18 : decode cX4_writeStart 18 = .ok (.aload_n 1, 1) := by decide +kernel
theorem dX4_writeStart_19 : decode cX4_writeStart 19 = .ok (.getfield 57, 3) := by decide +kernel
theorem dX4_writeStart_22 : decode cX4_writeStart 22 = .ok (.iload 4, 2) := by decide +kernel
theorem dX4_writeStart_24 : decode cX4_writeStart 24 = .ok (.iaload, 1) := by decide +kernel
theorem dX4_writeStart_25 : decode cX4_writeStart 25 = .ok (.i2l, 1) := by decide +kernel
theorem dX4_writeStart_26 : decode cX4_writeStart 26 = .ok (.bipush 6, 2) := by decide +kernel
theorem dX4_writeStart_28 : decode cX4_writeStart 28 = .ok (.iload 4, 2) := by decide +kernel
theorem dX4_writeStart_30 : decode cX4_writeStart 30 = .ok (.imul, 1) := by decide +kernel
theorem dX4_writeStart_31 : decode cX4_writeStart 31 = .ok (.lshl, 1) := by decide +kernel
theorem dX4_writeStart_32 : decode cX4_writeStart 32 = .ok (.lor, 1) := by decide +kernel
theorem dX4_writeStart_33 : decode cX4_writeStart 33 = .ok (.lstore_n 2, 1) := by decide +kernel
theorem dX4_writeStart_34 : decode cX4_writeStart 34 = .ok (.iinc 4 1, 3) := by decide +kernel
theorem dX4_writeStart_37 : decode cX4_writeStart 37 = .ok (.goto (-32), 3) := by decide +kernel
theorem dX4_writeStart_40 : decode cX4_writeStart 40 = .ok (.aload_n 0, 1) := by decide +kernel
theorem dX4_writeStart_41 : decode cX4_writeStart 41 = .ok (.getfield 11, 3) := by decide +kernel
theorem dX4_writeStart_44 : decode cX4_writeStart 44 = .ok (.iconst 0, 1) := by decide +kernel
theorem dX4_writeStart_45 : decode cX4_writeStart 45 = .ok (.lload_n 2, 1) := by decide +kernel
theorem dX4_writeStart_46 : decode cX4_writeStart 46 = .ok (.lastore, 1) := by decide +kernel
theorem dX4_writeStart_47 : decode cX4_writeStart 47 = .ok (.iconst 0, 1) := by decide +kernel
theorem dX4_writeStart_48 : decode cX4_writeStart 48 = .ok (.istore 4, 2) := by decide +kernel
theorem dX4_writeStart_50 : decode cX4_writeStart 50 = .ok (.iload 4, 2) := by decide +kernel
theorem dX4_writeStart_52 : decode cX4_writeStart 52 = .ok (.bipush 6, 2) := by decide +kernel
theorem dX4_writeStart_54 : decode cX4_writeStart 54 = .ok (.if_icmp .ge 64, 3) := by decide +kernel
theorem dX4_writeStart_57 : decode cX4_writeStart 57 = .ok (.lconst 0, 1) := by decide +kernel
theorem dX4_writeStart_58 : decode cX4_writeStart 58 = .ok (.lstore 5, 2) := by decide +kernel
theorem dX4_writeStart_60 : decode cX4_writeStart 60 = .ok (.iconst 0, 1) := by decide +kernel
theorem dX4_writeStart_61 : decode cX4_writeStart 61 = .ok (.istore 7, 2) := by decide +kernel
theorem dX4_writeStart_63 : decode cX4_writeStart 63 = .ok (.iload 7, 2) := by decide +kernel
theorem dX4_writeStart_65 : decode cX4_writeStart 65 = .ok (.bipush 6, 2) := by decide +kernel
theorem dX4_writeStart_67 : decode cX4_writeStart 67 = .ok (.if_icmp .ge 34, 3) := by decide +kernel
theorem dX4_writeStart_70 : decode cX4_writeStart 70 = .ok (.lload 5, 2) := by decide +kernel
theorem dX4_writeStart_72 : decode cX4_writeStart 72 = .ok (.aload_n 1, 1) := by decide +kernel
theorem dX4_writeStart_73 : decode cX4_writeStart 73 = .ok (.getfield 62, 3) := by decide +kernel
theorem dX4_writeStart_76 : decode cX4_writeStart 76 = .ok (.iload 4, 2) := by decide +kernel
theorem dX4_writeStart_78 : decode cX4_writeStart 78 = .ok (.bipush 6, 2) := by decide +kernel
theorem dX4_writeStart_80 : decode cX4_writeStart 80 = .ok (.imul, 1) := by decide +kernel
theorem dX4_writeStart_81 : decode cX4_writeStart 81 = .ok (.iload 7, 2) := by decide +kernel
theorem dX4_writeStart_83 : decode cX4_writeStart 83 = .ok (.iadd, 1) := by decide +kernel
theorem dX4_writeStart_84 : decode cX4_writeStart 84 = .ok (.iaload, 1) := by decide +kernel
theorem dX4_writeStart_85 : decode cX4_writeStart 85 = .ok (.i2l, 1) := by decide +kernel
theorem dX4_writeStart_86 : decode cX4_writeStart 86 = .ok (.bipush 10, 2) := by decide +kernel
theorem dX4_writeStart_88 : decode cX4_writeStart 88 = .ok (.iload 7, 2) := by decide +kernel
theorem dX4_writeStart_90 : decode cX4_writeStart 90 = .ok (.imul, 1) := by decide +kernel
theorem dX4_writeStart_91 : decode cX4_writeStart 91 = .ok (.lshl, 1) := by decide +kernel
theorem dX4_writeStart_92 : decode cX4_writeStart 92 = .ok (.lor, 1) := by decide +kernel
theorem dX4_writeStart_93 : decode cX4_writeStart 93 = .ok (.lstore 5, 2) := by decide +kernel
theorem dX4_writeStart_95 : decode cX4_writeStart 95 = .ok (.iinc 7 1, 3) := by decide +kernel
theorem dX4_writeStart_98 : decode cX4_writeStart 98 = .ok (.goto (-35), 3) := by decide +kernel
theorem dX4_writeStart_101 : decode cX4_writeStart 101 = .ok (.aload_n 0, 1) := by decide +kernel
theorem dX4_writeStart_102 : decode cX4_writeStart 102 = .ok (.getfield 11, 3) := by decide +kernel
theorem dX4_writeStart_105 : decode cX4_writeStart 105 = .ok (.iconst 1, 1) := by decide +kernel
theorem dX4_writeStart_106 : decode cX4_writeStart 106 = .ok (.iload 4, 2) := by decide +kernel
theorem dX4_writeStart_108 : decode cX4_writeStart 108 = .ok (.iadd, 1) := by decide +kernel
theorem dX4_writeStart_109 : decode cX4_writeStart 109 = .ok (.lload 5, 2) := by decide +kernel
theorem dX4_writeStart_111 : decode cX4_writeStart 111 = .ok (.lastore, 1) := by decide +kernel
theorem dX4_writeStart_112 : decode cX4_writeStart 112 = .ok (.iinc 4 1, 3) := by decide +kernel
theorem dX4_writeStart_115 : decode cX4_writeStart 115 = .ok (.goto (-65), 3) := by decide +kernel
theorem dX4_writeStart_118 : decode cX4_writeStart 118 = .ok (.return_, 1) := by decide +kernel
theorem bkX4_writeStart_0 {b : Int} {mem : qm} {Q : Int → qm → Prop}
    {s : Int}
    (hs : q_st s)
    (l1 : q_At yX4_writeStart cX4_writeStart 8 none 1 0 0 (qK (q_rb b) Q) 5 [(2, 163), (2, s), (1, 0), (4, 0), (0, 0), (4, 0), (4, 0), (4, 0)] [] (q_sh0, q_rb b, mem)) :
    q_At yX4_writeStart cX4_writeStart 8 none 1 0 0 (qK (q_rb b) Q) 0 [(2, 163), (2, s), (4, 0), (4, 0), (4, 0), (4, 0), (4, 0), (4, 0)] [] (q_sh0, q_rb b, mem) := by
  refine q_lconst (v := 0) dX4_writeStart_0 rfl ⟨by decide, by decide⟩ ?_
  refine qx_lstore_n (L' := [(2, 163), (2, s), (1, 0), (4, 0), (4, 0), (4, 0), (4, 0), (4, 0)]) dX4_writeStart_1 rfl rfl rfl rfl ?_
  refine qx_iconst dX4_writeStart_2 rfl rfl ?_
  refine qx_istore (L' := [(2, 163), (2, s), (1, 0), (4, 0), (0, 0), (4, 0), (4, 0), (4, 0)]) dX4_writeStart_3 rfl rfl rfl ?_
  exact l1
theorem bkX4_writeStart_5 {b : Int} {mem : qm} {Q : Int → qm → Prop}
    {v2 v4 s : Int}
    (hs : q_st s)
    (o1 : (mem 1 3) ≤ v4 → ((0 : Int) ≤ 0 ∧ (0 : Int) < 21007))
    (l2 : (mem 1 3) ≤ v4 → q_At yX4_writeStart cX4_writeStart 8 none 1 0 0 (qK (q_rb b) Q) 50 [(2, 163), (2, s), (1, v2), (4, 0), (0, 0), (4, 0), (4, 0), (4, 0)] [] (q_sh0, q_rb b, (q_up mem 164 0 v2)))
    (o3 : v4 < (mem 1 3) → (0 ≤ v4 ∧ v4 < 9) ∧ q_in32 (6 * v4) ∧ q_in32 (v4 + 1))
    (l4 : v4 < (mem 1 3) → q_At yX4_writeStart cX4_writeStart 8 none 1 0 0 (qK (q_rb b) Q) 5 [(2, 163), (2, s), (1, (q_olor v2 (q_olshl (mem (s + 3) v4) (6 * v4)))), (4, 0), (0, (v4 + 1)), (4, 0), (4, 0), (4, 0)] [] (q_sh0, q_rb b, mem)) :
    q_At yX4_writeStart cX4_writeStart 8 none 1 0 0 (qK (q_rb b) Q) 5 [(2, 163), (2, s), (1, v2), (4, 0), (0, v4), (4, 0), (4, 0), (4, 0)] [] (q_sh0, q_rb b, mem) := by
  refine q_iload dX4_writeStart_5 rfl ?_
  refine q_aload_n dX4_writeStart_7 rfl rfl ?_
  refine q_getR (ci := 4) (k := 0) dX4_writeStart_8 rfl (by decide) rfl tw329 (by decide) qs163 qw163_0 (by decide) ?_
  refine qx_getI (ci := 9) (k := 3) (v := (mem 1 3)) dX4_writeStart_11 rfl rfl rfl tw52 rfl qs1 rfl ?_
  refine qx_icmp_ge (tgt := 40) dX4_writeStart_14 (by decide) (fun c1 => ?_) (fun c1 => ?_)
  · skip
    refine q_aload_n dX4_writeStart_40 rfl rfl ?_
    refine q_getR (ci := 4) (k := 1) dX4_writeStart_41 rfl (by decide) rfl tw330 (by decide) qs163 qw163_1 (by decide) ?_
    refine qx_iconst dX4_writeStart_44 rfl rfl ?_
    refine q_lload_n dX4_writeStart_45 rfl rfl ?_
    refine q_last dX4_writeStart_46 qs164 ((o1 c1)).1 ((o1 c1)).2 ?_
    refine qx_iconst dX4_writeStart_47 rfl rfl ?_
    refine qx_istore (L' := [(2, 163), (2, s), (1, v2), (4, 0), (0, 0), (4, 0), (4, 0), (4, 0)]) dX4_writeStart_48 rfl rfl rfl ?_
    exact l2 c1
  · skip
    refine q_lload_n dX4_writeStart_17 rfl rfl ?_
    refine q_aload_n dX4_writeStart_18 rfl rfl ?_
    refine q_getR (ci := 7) (k := 2) dX4_writeStart_19 rfl (by decide) rfl tw76 (by decide) (qst0 hs) (qsw2 hs) (by have := qst_nn hs; omega) ?_
    refine q_iload dX4_writeStart_22 rfl ?_
    refine qx_iald (v := (mem (s + 3) v4)) dX4_writeStart_24 (qst3 hs) (o3 c1).1 rfl ?_
    refine q_i2l dX4_writeStart_25 ?_
    refine qx_bipush dX4_writeStart_26 rfl rfl ?_
    refine q_iload dX4_writeStart_28 rfl ?_
    refine qx_imul dX4_writeStart_30 (o3 c1).2.1 ?_
    refine q_lshl dX4_writeStart_31 ?_
    refine q_lor dX4_writeStart_32 ?_
    refine qx_lstore_n (L' := [(2, 163), (2, s), (1, (q_olor v2 (q_olshl (mem (s + 3) v4) (6 * v4)))), (4, 0), (0, v4), (4, 0), (4, 0), (4, 0)]) dX4_writeStart_33 rfl rfl rfl rfl ?_
    refine qx_iinc (L' := [(2, 163), (2, s), (1, (q_olor v2 (q_olshl (mem (s + 3) v4) (6 * v4)))), (4, 0), (0, (v4 + 1)), (4, 0), (4, 0), (4, 0)]) dX4_writeStart_34 rfl rfl rfl (o3 c1).2.2 rfl ?_
    refine q_goto (tgt := 5) dX4_writeStart_37 (by decide) ?_
    exact l4 c1
theorem bkX4_writeStart_50 {b : Int} {mem : qm} {Q : Int → qm → Prop}
    {v2 v4 s : Int}
    (hs : q_st s)
    (l1 : 6 ≤ v4 → Q 0 mem)
    (l2 : v4 < 6 → q_At yX4_writeStart cX4_writeStart 8 none 1 0 0 (qK (q_rb b) Q) 63 [(2, 163), (2, s), (1, v2), (4, 0), (0, v4), (1, 0), (4, 0), (0, 0)] [] (q_sh0, q_rb b, mem)) :
    q_At yX4_writeStart cX4_writeStart 8 none 1 0 0 (qK (q_rb b) Q) 50 [(2, 163), (2, s), (1, v2), (4, 0), (0, v4), (4, 0), (4, 0), (4, 0)] [] (q_sh0, q_rb b, mem) := by
  refine q_iload dX4_writeStart_50 rfl ?_
  refine qx_bipush dX4_writeStart_52 rfl rfl ?_
  refine qx_icmp_ge (tgt := 118) dX4_writeStart_54 (by decide) (fun c1 => ?_) (fun c1 => ?_)
  · skip
    exact q_vret dX4_writeStart_118 (qK_i (l1 c1))
  · skip
    refine q_lconst (v := 0) dX4_writeStart_57 rfl ⟨by decide, by decide⟩ ?_
    refine qx_lstore (L' := [(2, 163), (2, s), (1, v2), (4, 0), (0, v4), (1, 0), (4, 0), (4, 0)]) dX4_writeStart_58 rfl rfl rfl ?_
    refine qx_iconst dX4_writeStart_60 rfl rfl ?_
    refine qx_istore (L' := [(2, 163), (2, s), (1, v2), (4, 0), (0, v4), (1, 0), (4, 0), (0, 0)]) dX4_writeStart_61 rfl rfl rfl ?_
    exact l2 c1
theorem bkX4_writeStart_63 {b : Int} {mem : qm} {Q : Int → qm → Prop}
    {v2 v4 v5 v7 s : Int}
    (hs : q_st s)
    (o1 : 6 ≤ v7 → q_in32 (1 + v4) ∧ (0 ≤ (1 + v4) ∧ (1 + v4) < 21007) ∧ q_in32 (v4 + 1))
    (l2 : 6 ≤ v7 → q_At yX4_writeStart cX4_writeStart 8 none 1 0 0 (qK (q_rb b) Q) 50 [(2, 163), (2, s), (1, v2), (4, 0), (0, (v4 + 1)), (4, 0), (4, 0), (4, 0)] [] (q_sh0, q_rb b, (q_up mem 164 (1 + v4) v5)))
    (o3 : v7 < 6 → q_in32 (v4 * 6) ∧ q_in32 ((v4 * 6) + v7) ∧ (0 ≤ ((v4 * 6) + v7) ∧ ((v4 * 6) + v7) < 36) ∧ q_in32 (10 * v7) ∧ q_in32 (v7 + 1))
    (l4 : v7 < 6 → q_At yX4_writeStart cX4_writeStart 8 none 1 0 0 (qK (q_rb b) Q) 63 [(2, 163), (2, s), (1, v2), (4, 0), (0, v4), (1, (q_olor v5 (q_olshl (mem (s + 7) ((v4 * 6) + v7)) (10 * v7)))), (4, 0), (0, (v7 + 1))] [] (q_sh0, q_rb b, mem)) :
    q_At yX4_writeStart cX4_writeStart 8 none 1 0 0 (qK (q_rb b) Q) 63 [(2, 163), (2, s), (1, v2), (4, 0), (0, v4), (1, v5), (4, 0), (0, v7)] [] (q_sh0, q_rb b, mem) := by
  refine q_iload dX4_writeStart_63 rfl ?_
  refine qx_bipush dX4_writeStart_65 rfl rfl ?_
  refine qx_icmp_ge (tgt := 101) dX4_writeStart_67 (by decide) (fun c1 => ?_) (fun c1 => ?_)
  · skip
    refine q_aload_n dX4_writeStart_101 rfl rfl ?_
    refine q_getR (ci := 4) (k := 1) dX4_writeStart_102 rfl (by decide) rfl tw330 (by decide) qs163 qw163_1 (by decide) ?_
    refine qx_iconst dX4_writeStart_105 rfl rfl ?_
    refine q_iload dX4_writeStart_106 rfl ?_
    refine qx_iadd dX4_writeStart_108 (o1 c1).1 ?_
    refine q_lload dX4_writeStart_109 rfl ?_
    refine q_last dX4_writeStart_111 qs164 ((o1 c1).2.1).1 ((o1 c1).2.1).2 ?_
    refine qx_iinc (L' := [(2, 163), (2, s), (1, v2), (4, 0), (0, (v4 + 1)), (1, v5), (4, 0), (0, v7)]) dX4_writeStart_112 rfl rfl rfl (o1 c1).2.2 rfl ?_
    refine q_goto (tgt := 50) dX4_writeStart_115 (by decide) ?_
    refine q_kill (L' := [(2, 163), (2, s), (1, v2), (4, 0), (0, (v4 + 1)), (4, 0), (4, 0), (0, v7)]) 5 rfl ?_
    refine q_kill (L' := [(2, 163), (2, s), (1, v2), (4, 0), (0, (v4 + 1)), (4, 0), (4, 0), (4, 0)]) 7 rfl ?_
    exact l2 c1
  · skip
    refine q_lload dX4_writeStart_70 rfl ?_
    refine q_aload_n dX4_writeStart_72 rfl rfl ?_
    refine q_getR (ci := 7) (k := 6) dX4_writeStart_73 rfl (by decide) rfl tw96 (by decide) (qst0 hs) (qsw6 hs) (by have := qst_nn hs; omega) ?_
    refine q_iload dX4_writeStart_76 rfl ?_
    refine qx_bipush dX4_writeStart_78 rfl rfl ?_
    refine qx_imul dX4_writeStart_80 (o3 c1).1 ?_
    refine q_iload dX4_writeStart_81 rfl ?_
    refine qx_iadd dX4_writeStart_83 (o3 c1).2.1 ?_
    refine qx_iald (v := (mem (s + 7) ((v4 * 6) + v7))) dX4_writeStart_84 (qst7 hs) (o3 c1).2.2.1 rfl ?_
    refine q_i2l dX4_writeStart_85 ?_
    refine qx_bipush dX4_writeStart_86 rfl rfl ?_
    refine q_iload dX4_writeStart_88 rfl ?_
    refine qx_imul dX4_writeStart_90 (o3 c1).2.2.2.1 ?_
    refine q_lshl dX4_writeStart_91 ?_
    refine q_lor dX4_writeStart_92 ?_
    refine qx_lstore (L' := [(2, 163), (2, s), (1, v2), (4, 0), (0, v4), (1, (q_olor v5 (q_olshl (mem (s + 7) ((v4 * 6) + v7)) (10 * v7)))), (4, 0), (0, v7)]) dX4_writeStart_93 rfl rfl rfl ?_
    refine qx_iinc (L' := [(2, 163), (2, s), (1, v2), (4, 0), (0, v4), (1, (q_olor v5 (q_olshl (mem (s + 7) ((v4 * 6) + v7)) (10 * v7)))), (4, 0), (0, (v7 + 1))]) dX4_writeStart_95 rfl rfl rfl (o3 c1).2.2.2.2 rfl ?_
    refine q_goto (tgt := 63) dX4_writeStart_98 (by decide) ?_
    exact l4 c1
theorem dX4_levelIn_0 : decode cX4_levelIn 0 = .ok (.aload_n 0, 1) := by decide +kernel
theorem dX4_levelIn_1 : decode cX4_levelIn 1 = .ok (.getfield 11, 3) := by decide +kernel
theorem dX4_levelIn_4 : decode cX4_levelIn 4 = .ok (.iload_n 1, 1) := by decide +kernel
theorem dX4_levelIn_5 : decode cX4_levelIn 5 = .ok (.bipush 7, 2) := by decide +kernel
theorem dX4_levelIn_7 : decode cX4_levelIn 7 = .ok (.imul, 1) := by decide +kernel
theorem dX4_levelIn_8 : decode cX4_levelIn 8 = .ok (.laload, 1) := by decide +kernel
theorem dX4_levelIn_9 : decode cX4_levelIn 9 = .ok (.bipush 6, 2) := by decide +kernel
theorem dX4_levelIn_11 : decode cX4_levelIn 11 = .ok (.iload_n 2, 1) := by decide +kernel
theorem dX4_levelIn_12 : decode cX4_levelIn 12 = .ok (.imul, 1) := by decide +kernel
theorem dX4_levelIn_13 : decode cX4_levelIn 13 = .ok (.lushr, 1) := by decide +kernel
theorem dX4_levelIn_14 : decode cX4_levelIn 14 = .ok (.l2i, 1) := by decide +kernel
theorem dX4_levelIn_15 : decode cX4_levelIn 15 = .ok (.bipush 63, 2) := by decide +kernel
theorem dX4_levelIn_17 : decode cX4_levelIn 17 = .ok (.iand, 1) := by decide +kernel
theorem dX4_levelIn_18 : decode cX4_levelIn 18 = .ok (.ireturn, 1) := by decide +kernel
theorem bkX4_levelIn_0 {b : Int} {mem : qm} {Q : Int → qm → Prop}
    {v j : Int}
    (o1 : q_in32 (v * 7) ∧ (0 ≤ (v * 7) ∧ (v * 7) < 21007) ∧ q_in32 (6 * j))
    (l2 : Q (q_oiand (q_ol2i (q_olushr (mem 164 (v * 7)) (6 * j))) 63) mem) :
    q_At yX4_levelIn cX4_levelIn 3 (some .int) 1 0 0 (qK (q_rb b) Q) 0 [(2, 163), (0, v), (0, j)] [] (q_sh0, q_rb b, mem) := by
  refine q_aload_n dX4_levelIn_0 rfl rfl ?_
  refine q_getR (ci := 4) (k := 1) dX4_levelIn_1 rfl (by decide) rfl tw330 (by decide) qs163 qw163_1 (by decide) ?_
  refine q_iload_n dX4_levelIn_4 rfl rfl ?_
  refine qx_bipush dX4_levelIn_5 rfl rfl ?_
  refine qx_imul dX4_levelIn_7 (o1).1 ?_
  refine qx_lald (v := (mem 164 (v * 7))) dX4_levelIn_8 qs164 (o1).2.1 rfl ?_
  refine qx_bipush dX4_levelIn_9 rfl rfl ?_
  refine q_iload_n dX4_levelIn_11 rfl rfl ?_
  refine qx_imul dX4_levelIn_12 (o1).2.2 ?_
  refine q_lushr dX4_levelIn_13 ?_
  refine q_l2i dX4_levelIn_14 ?_
  refine qx_bipush dX4_levelIn_15 rfl rfl ?_
  refine q_iand dX4_levelIn_17 ?_
  exact q_iret dX4_levelIn_18 (qK_i (l2))
theorem dX4_canPay_0 : decode cX4_canPay 0 = .ok (.aload_n 0, 1) := by decide +kernel
theorem dX4_canPay_1 : decode cX4_canPay 1 = .ok (.getfield 11, 3) := by decide +kernel
theorem dX4_canPay_4 : decode cX4_canPay 4 = .ok (.iload_n 1, 1) := by decide +kernel
theorem dX4_canPay_5 : decode cX4_canPay 5 = .ok (.bipush 7, 2) := by decide +kernel
theorem dX4_canPay_7 : decode cX4_canPay 7 = .ok (.imul, 1) := by decide +kernel
theorem dX4_canPay_8 : decode cX4_canPay 8 = .ok (.iconst 1, 1) := by decide +kernel
theorem dX4_canPay_9 : decode cX4_canPay 9 = .ok (.iadd, 1) := by decide +kernel
theorem dX4_canPay_10 : decode cX4_canPay 10 = .ok (.aload_n 0, 1) := by decide +kernel
theorem dX4_canPay_11 : decode cX4_canPay 11 = .ok (.getfield 25, 3) := by decide +kernel
theorem dX4_canPay_14 : decode cX4_canPay 14 = .ok (.getfield 65, 3) := by decide +kernel
theorem dX4_canPay_17 : decode cX4_canPay 17 = .ok (.iload_n 2, 1) := by decide +kernel
theorem dX4_canPay_18 : decode cX4_canPay 18 = .ok (.iaload, 1) := by decide +kernel
theorem dX4_canPay_19 : decode cX4_canPay 19 = .ok (.iadd, 1) := by decide +kernel
theorem dX4_canPay_20 : decode cX4_canPay 20 = .ok (.laload, 1) := by decide +kernel
theorem dX4_canPay_21 : decode cX4_canPay 21 = .ok (.lstore 4, 2) := by decide +kernel
theorem dX4_canPay_23 : decode cX4_canPay 23 = .ok (.lload 4, 2) := by decide +kernel
theorem dX4_canPay_25 : decode cX4_canPay 25 = .ok (.bipush 10, 2) := by decide +kernel
theorem dX4_canPay_27 : decode cX4_canPay 27 = .ok (.aload_n 0, 1) := by decide +kernel
theorem dX4_canPay_28 : decode cX4_canPay 28 = .ok (.getfield 25, 3) := by decide +kernel
theorem dX4_canPay_31 : decode cX4_canPay 31 = .ok (.getfield 65, 3) := by decide +kernel
theorem dX4_canPay_34 : decode cX4_canPay 34 = .ok (.iload_n 3, 1) := by decide +kernel
theorem dX4_canPay_35 : decode cX4_canPay 35 = .ok (.iaload, 1) := by decide +kernel
theorem dX4_canPay_36 : decode cX4_canPay 36 = .ok (.imul, 1) := by decide +kernel
theorem dX4_canPay_37 : decode cX4_canPay 37 = .ok (.lushr, 1) := by decide +kernel
theorem dX4_canPay_38 : decode cX4_canPay 38 = .ok (.l2i, 1) := by decide +kernel
theorem dX4_canPay_39 : decode cX4_canPay 39 = .ok (.sipush 1023, 3) := by decide +kernel
theorem dX4_canPay_42 : decode cX4_canPay 42 = .ok (.iand, 1) := by decide +kernel
theorem dX4_canPay_43 : decode cX4_canPay 43 = .ok (.istore 6, 2) := by decide +kernel
theorem dX4_canPay_45 : decode cX4_canPay 45 = .ok (.iload 6, 2) := by decide +kernel
theorem dX4_canPay_47 : decode cX4_canPay 47 = .ok (.aload_n 0, 1) := by decide +kernel
theorem dX4_canPay_48 : decode cX4_canPay 48 = .ok (.iload_n 1, 1) := by decide +kernel
theorem dX4_canPay_49 : decode cX4_canPay 49 = .ok (.iload_n 2, 1) := by decide +kernel
theorem dX4_canPay_50 : decode cX4_canPay 50 = .ok (.invokevirtual 68, 3) := by decide +kernel
theorem dX4_canPay_53 : decode cX4_canPay 53 = .ok (.aload_n 0, 1) := by decide +kernel
theorem dX4_canPay_54 : decode cX4_canPay 54 = .ok (.getfield 25, 3) := by decide +kernel
theorem dX4_canPay_57 : decode cX4_canPay 57 = .ok (.getfield 80, 3) := by decide +kernel
theorem dX4_canPay_60 : decode cX4_canPay 60 = .ok (.iload_n 3, 1) := by decide +kernel
theorem dX4_canPay_61 : decode cX4_canPay 61 = .ok (.iaload, 1) := by decide +kernel
theorem dX4_canPay_62 : decode cX4_canPay 62 = .ok (.aload_n 0, 1) := by decide +kernel
theorem dX4_canPay_63 : decode cX4_canPay 63 = .ok (.iload_n 1, 1) := by decide +kernel
theorem dX4_canPay_64 : decode cX4_canPay 64 = .ok (.iload_n 3, 1) := by decide +kernel
theorem dX4_canPay_65 : decode cX4_canPay 65 = .ok (.invokevirtual 68, 3) := by decide +kernel
theorem dX4_canPay_68 : decode cX4_canPay 68 = .ok (.isub, 1) := by decide +kernel
theorem dX4_canPay_69 : decode cX4_canPay 69 = .ok (.invokestatic 83, 3) := by decide +kernel
theorem dX4_canPay_72 : decode cX4_canPay 72 = .ok (.invokestatic 83, 3) := by decide +kernel
theorem dX4_canPay_75 : decode cX4_canPay 75 = .ok (.ireturn, 1) := by decide +kernel
theorem bkX4_canPay_0 {b : Int} {mem : qm} {Q : Int → qm → Prop}
    {v x y : Int}
    (o1 : q_in32 (v * 7) ∧ q_in32 ((v * 7) + 1) ∧ (0 ≤ x ∧ x < 9) ∧ q_in32 (((v * 7) + 1) + (mem 3 x)) ∧ (0 ≤ (((v * 7) + 1) + (mem 3 x)) ∧ (((v * 7) + 1) + (mem 3 x)) < 21007) ∧ (0 ≤ y ∧ y < 9) ∧ q_in32 (10 * (mem 3 y)))
    {P1 : Int → qm → Prop}
    (l2 : q_Ev yX4_levelIn cX4_levelIn 3 (some .int) 1 0 0 [(2, 163), (0, v), (0, x)] (q_sh0, q_rb b, mem) (qK (q_rb b) (P1)))
    {P2 : Int → qm → Int → qm → Prop}
    (l3 : ∀ (r1 : Int), ∀ (m1 : qm), P1 r1 m1 → q_in32 r1 → q_Ev yX4_levelIn cX4_levelIn 3 (some .int) 1 0 0 [(2, 163), (0, v), (0, y)] (q_sh0, q_rb b, m1) (qK (q_rb b) (P2 r1 m1)))
    (o4 : ∀ (r1 : Int), ∀ (m1 : qm), P1 r1 m1 → q_in32 r1 → ∀ (r2 : Int), ∀ (m2 : qm), P2 r1 m1 r2 m2 → q_in32 r2 → q_in32 ((m1 2 y) - r2))
    (l5 : ∀ (r1 : Int), ∀ (m1 : qm), P1 r1 m1 → q_in32 r1 → ∀ (r2 : Int), ∀ (m2 : qm), P2 r1 m1 r2 m2 → q_in32 r2 → Q (min (q_oiand (q_ol2i (q_olushr (mem 164 (((v * 7) + 1) + (mem 3 x))) (10 * (mem 3 y)))) 1023) (min r1 ((m1 2 y) - r2))) m2) :
    q_At yX4_canPay cX4_canPay 7 (some .int) 2 0 0 (qK (q_rb b) Q) 0 [(2, 163), (0, v), (0, x), (0, y), (4, 0), (4, 0), (4, 0)] [] (q_sh0, q_rb b, mem) := by
  refine q_aload_n dX4_canPay_0 rfl rfl ?_
  refine q_getR (ci := 4) (k := 1) dX4_canPay_1 rfl (by decide) rfl tw330 (by decide) qs163 qw163_1 (by decide) ?_
  refine q_iload_n dX4_canPay_4 rfl rfl ?_
  refine qx_bipush dX4_canPay_5 rfl rfl ?_
  refine qx_imul dX4_canPay_7 (o1).1 ?_
  refine qx_iconst dX4_canPay_8 rfl rfl ?_
  refine qx_iadd dX4_canPay_9 (o1).2.1 ?_
  refine q_aload_n dX4_canPay_10 rfl rfl ?_
  refine q_getR (ci := 4) (k := 0) dX4_canPay_11 rfl (by decide) rfl tw329 (by decide) qs163 qw163_0 (by decide) ?_
  refine q_getR (ci := 9) (k := 1) dX4_canPay_14 rfl (by decide) rfl tw44 (by decide) qs1 qw1_1 (by decide) ?_
  refine q_iload_n dX4_canPay_17 rfl rfl ?_
  refine qx_iald (v := (mem 3 x)) dX4_canPay_18 qs3 (o1).2.2.1 rfl ?_
  refine qx_iadd dX4_canPay_19 (o1).2.2.2.1 ?_
  refine qx_lald (v := (mem 164 (((v * 7) + 1) + (mem 3 x)))) dX4_canPay_20 qs164 (o1).2.2.2.2.1 rfl ?_
  refine qx_lstore (L' := [(2, 163), (0, v), (0, x), (0, y), (1, (mem 164 (((v * 7) + 1) + (mem 3 x)))), (4, 0), (4, 0)]) dX4_canPay_21 rfl rfl rfl ?_
  refine q_lload dX4_canPay_23 rfl ?_
  refine qx_bipush dX4_canPay_25 rfl rfl ?_
  refine q_aload_n dX4_canPay_27 rfl rfl ?_
  refine q_getR (ci := 4) (k := 0) dX4_canPay_28 rfl (by decide) rfl tw329 (by decide) qs163 qw163_0 (by decide) ?_
  refine q_getR (ci := 9) (k := 1) dX4_canPay_31 rfl (by decide) rfl tw44 (by decide) qs1 qw1_1 (by decide) ?_
  refine q_iload_n dX4_canPay_34 rfl rfl ?_
  refine qx_iald (v := (mem 3 y)) dX4_canPay_35 qs3 (o1).2.2.2.2.2.1 rfl ?_
  refine qx_imul dX4_canPay_36 (o1).2.2.2.2.2.2 ?_
  refine q_lushr dX4_canPay_37 ?_
  refine q_l2i dX4_canPay_38 ?_
  refine qx_sipush dX4_canPay_39 rfl rfl ?_
  refine q_iand dX4_canPay_42 ?_
  refine qx_istore (L' := [(2, 163), (0, v), (0, x), (0, y), (1, (mem 164 (((v * 7) + 1) + (mem 3 x)))), (4, 0), (0, (q_oiand (q_ol2i (q_olushr (mem 164 (((v * 7) + 1) + (mem 3 x))) (10 * (mem 3 y)))) 1023))]) dX4_canPay_43 rfl rfl rfl ?_
  refine q_iload dX4_canPay_45 rfl ?_
  refine q_aload_n dX4_canPay_47 rfl rfl ?_
  refine q_iload_n dX4_canPay_48 rfl rfl ?_
  refine q_iload_n dX4_canPay_49 rfl rfl ?_
  refine qx_invV (ci := 4) [(0, v), (0, x)] [(0, x), (0, v), (2, 163), (0, (q_oiand (q_ol2i (q_olushr (mem 164 (((v * 7) + 1) + (mem 3 x))) (10 * (mem 3 y)))) 1023))] rfl qM_X4_levelIn dX4_canPay_50 tw896 rfl qs163 rfl rfl rfl rfl (l2) (fun r1 m1 p1 q1 => ?_)
  refine q_aload_n dX4_canPay_53 rfl rfl ?_
  refine q_getR (ci := 4) (k := 0) dX4_canPay_54 rfl (by decide) rfl tw329 (by decide) qs163 qw163_0 (by decide) ?_
  refine q_getR (ci := 9) (k := 0) dX4_canPay_57 rfl (by decide) rfl tw41 (by decide) qs1 qw1_0 (by decide) ?_
  refine q_iload_n dX4_canPay_60 rfl rfl ?_
  refine qx_iald (v := (m1 2 y)) dX4_canPay_61 qs2 (o1).2.2.2.2.2.1 rfl ?_
  refine q_aload_n dX4_canPay_62 rfl rfl ?_
  refine q_iload_n dX4_canPay_63 rfl rfl ?_
  refine q_iload_n dX4_canPay_64 rfl rfl ?_
  refine qx_invV (ci := 4) [(0, v), (0, y)] [(0, y), (0, v), (2, 163), (0, (m1 2 y)), (0, r1), (0, (q_oiand (q_ol2i (q_olushr (mem 164 (((v * 7) + 1) + (mem 3 x))) (10 * (mem 3 y)))) 1023))] rfl qM_X4_levelIn dX4_canPay_65 tw896 rfl qs163 rfl rfl rfl rfl (l3 r1 m1 p1 q1) (fun r2 m2 p2 q2 => ?_)
  refine qx_isub dX4_canPay_68 (o4 r1 m1 p1 q1 r2 m2 p2 q2) ?_
  refine q_min dX4_canPay_69 tw904 tw429 tw15 tw430 (by decide) (Nat.le_of_ble_eq_true rfl) ?_
  refine q_min dX4_canPay_72 tw904 tw429 tw15 tw430 (by decide) (Nat.le_of_ble_eq_true rfl) ?_
  exact q_iret dX4_canPay_75 (qK_i (l5 r1 m1 p1 q1 r2 m2 p2 q2))
theorem dX4_writeNext_0 : decode cX4_writeNext 0 = .ok (.aload_n 0, 1) := by decide +kernel
theorem dX4_writeNext_1 : decode cX4_writeNext 1 = .ok (.getfield 35, 3) := by decide +kernel
theorem dX4_writeNext_4 : decode cX4_writeNext 4 = .ok (.bipush 7, 2) := by decide +kernel
theorem dX4_writeNext_6 : decode cX4_writeNext 6 = .ok (.imul, 1) := by decide +kernel
theorem dX4_writeNext_7 : decode cX4_writeNext 7 = .ok (.istore 5, 2) := by decide +kernel
theorem dX4_writeNext_9 : decode cX4_writeNext 9 = .ok (.aload_n 0, 1) := by decide +kernel
theorem dX4_writeNext_10 : decode cX4_writeNext 10 = .ok (.getfield 11, 3) := by decide +kernel
theorem dX4_writeNext_13 : decode cX4_writeNext 13 = .ok (.iload_n 1, 1) := by decide +kernel
theorem dX4_writeNext_14 : decode cX4_writeNext 14 = .ok (.bipush 7, 2) := by decide +kernel
theorem dX4_writeNext_16 : decode cX4_writeNext 16 = .ok (.imul, 1) := by decide +kernel
theorem dX4_writeNext_17 : decode cX4_writeNext 17 = .ok (.aload_n 0, 1) := by decide +kernel
theorem dX4_writeNext_18 : decode cX4_writeNext 18 = .ok (.getfield 11, 3) := by decide +kernel
theorem dX4_writeNext_21 : decode cX4_writeNext 21 = .ok (.iload 5, 2) := by decide +kernel
theorem dX4_writeNext_23 : decode cX4_writeNext 23 = .ok (.bipush 7, 2) := by decide +kernel
theorem dX4_writeNext_25 : decode cX4_writeNext 25 = .ok (.invokestatic 88, 3) := by decide +kernel
theorem dX4_writeNext_28 : decode cX4_writeNext 28 = .ok (.aload_n 0, 1) := by decide +kernel
theorem dX4_writeNext_29 : decode cX4_writeNext 29 = .ok (.getfield 11, 3) := by decide +kernel
theorem dX4_writeNext_32 : decode cX4_writeNext 32 = .ok (.iload 5, 2) := by decide +kernel
theorem dX4_writeNext_34 : decode cX4_writeNext 34 = .ok (.dup2, 1) := by decide +kernel
theorem dX4_writeNext_35 : decode cX4_writeNext 35 = .ok (.laload, 1) := by decide +kernel
theorem dX4_writeNext_36 : decode cX4_writeNext 36 = .ok (.iload 4, 2) := by decide +kernel
theorem dX4_writeNext_38 : decode cX4_writeNext 38 = .ok (.i2l, 1) := by decide +kernel
theorem dX4_writeNext_39 : decode cX4_writeNext 39 = .ok (.bipush 6, 2) := by decide +kernel
theorem dX4_writeNext_41 : decode cX4_writeNext 41 = .ok (.iload_n 3, 1) := by decide +kernel
theorem dX4_writeNext_42 : decode cX4_writeNext 42 = .ok (.imul, 1) := by decide +kernel
theorem dX4_writeNext_43 : decode cX4_writeNext 43 = .ok (.lshl, 1) := by decide +kernel
theorem dX4_writeNext_44 : decode cX4_writeNext 44 = .ok (.iload 4, 2) := by decide +kernel
theorem dX4_writeNext_46 : decode cX4_writeNext 46 = .ok (.i2l, 1) := by decide +kernel
theorem dX4_writeNext_47 : decode cX4_writeNext 47 = .ok (.bipush 6, 2) := by decide +kernel
theorem dX4_writeNext_49 : decode cX4_writeNext 49 = .ok (.iload_n 2, 1) := by decide +kernel
theorem dX4_writeNext_50 : decode cX4_writeNext 50 = .ok (.imul, 1) := by decide +kernel
theorem dX4_writeNext_51 : decode cX4_writeNext 51 = .ok (.lshl, 1) := by decide +kernel
theorem dX4_writeNext_52 : decode cX4_writeNext 52 = .ok (.lsub, 1) := by decide +kernel
theorem dX4_writeNext_53 : decode cX4_writeNext 53 = .ok (.ladd, 1) := by decide +kernel
theorem dX4_writeNext_54 : decode cX4_writeNext 54 = .ok (.lastore, 1) := by decide +kernel
theorem dX4_writeNext_55 : decode cX4_writeNext 55 = .ok (.aload_n 0, 1) := by decide +kernel
theorem dX4_writeNext_56 : decode cX4_writeNext 56 = .ok (.getfield 11, 3) := by decide +kernel
theorem dX4_writeNext_59 : decode cX4_writeNext 59 = .ok (.iload 5, 2) := by decide +kernel
theorem dX4_writeNext_61 : decode cX4_writeNext 61 = .ok (.iconst 1, 1) := by decide +kernel
theorem dX4_writeNext_62 : decode cX4_writeNext 62 = .ok (.iadd, 1) := by decide +kernel
theorem dX4_writeNext_63 : decode cX4_writeNext 63 = .ok (.aload_n 0, 1) := by decide +kernel
theorem dX4_writeNext_64 : decode cX4_writeNext 64 = .ok (.getfield 25, 3) := by decide +kernel
theorem dX4_writeNext_67 : decode cX4_writeNext 67 = .ok (.getfield 65, 3) := by decide +kernel
theorem dX4_writeNext_70 : decode cX4_writeNext 70 = .ok (.iload_n 2, 1) := by decide +kernel
theorem dX4_writeNext_71 : decode cX4_writeNext 71 = .ok (.iaload, 1) := by decide +kernel
theorem dX4_writeNext_72 : decode cX4_writeNext 72 = .ok (.iadd, 1) := by decide +kernel
theorem dX4_writeNext_73 : decode cX4_writeNext 73 = .ok (.dup2, 1) := by decide +kernel
theorem dX4_writeNext_74 : decode cX4_writeNext 74 = .ok (.laload, 1) := by decide +kernel
theorem dX4_writeNext_75 : decode cX4_writeNext 75 = .ok (.iload 4, 2) := by decide +kernel
theorem dX4_writeNext_77 : decode cX4_writeNext 77 = .ok (.i2l, 1) := by decide +kernel
theorem dX4_writeNext_78 : decode cX4_writeNext 78 = .ok (.bipush 10, 2) := by decide +kernel
theorem dX4_writeNext_80 : decode cX4_writeNext 80 = .ok (.aload_n 0, 1) := by decide +kernel
theorem dX4_writeNext_81 : decode cX4_writeNext 81 = .ok (.getfield 25, 3) := by decide +kernel
theorem dX4_writeNext_84 : decode cX4_writeNext 84 = .ok (.getfield 65, 3) := by decide +kernel
theorem dX4_writeNext_87 : decode cX4_writeNext 87 = .ok (.iload_n 3, 1) := by decide +kernel
theorem dX4_writeNext_88 : decode cX4_writeNext 88 = .ok (.iaload, 1) := by decide +kernel
theorem dX4_writeNext_89 : decode cX4_writeNext 89 = .ok (.imul, 1) := by decide +kernel
theorem dX4_writeNext_90 : decode cX4_writeNext 90 = .ok (.lshl, 1) := by decide +kernel
theorem dX4_writeNext_91 : decode cX4_writeNext 91 = .ok (.lsub, 1) := by decide +kernel
theorem dX4_writeNext_92 : decode cX4_writeNext 92 = .ok (.lastore, 1) := by decide +kernel
theorem dX4_writeNext_93 : decode cX4_writeNext 93 = .ok (.return_, 1) := by decide +kernel
theorem bkX4_writeNext_0 {b : Int} {mem : qm} {Q : Int → qm → Prop}
    {v x y w : Int}
    (o1 : q_in32 ((mem 163 5) * 7) ∧ q_in32 (v * 7) ∧ (0 : Int) ≤ (v * 7) ∧ (0 : Int) ≤ ((mem 163 5) * 7) ∧ (0 : Int) ≤ 7 ∧ ((v * 7) : Int) + 7 ≤ 21007 ∧ (((mem 163 5) * 7) : Int) + 7 ≤ 21007 ∧ (0 ≤ ((mem 163 5) * 7) ∧ ((mem 163 5) * 7) < 21007) ∧ q_in32 (6 * y) ∧ q_in32 (6 * x) ∧ q_in32 (((mem 163 5) * 7) + 1) ∧ (0 ≤ x ∧ x < 9) ∧ q_in32 ((((mem 163 5) * 7) + 1) + (mem 3 x)) ∧ (0 ≤ ((((mem 163 5) * 7) + 1) + (mem 3 x)) ∧ ((((mem 163 5) * 7) + 1) + (mem 3 x)) < 21007) ∧ (0 ≤ y ∧ y < 9) ∧ q_in32 (10 * (mem 3 y)))
    (l2 : Q 0 (q_up (q_up (q_cp mem 164 (v * 7) 164 ((mem 163 5) * 7) 7) 164 ((mem 163 5) * 7) (q_w64 (((q_cp mem 164 (v * 7) 164 ((mem 163 5) * 7) 7) 164 ((mem 163 5) * 7)) + (q_w64 ((q_olshl w (6 * y)) - (q_olshl w (6 * x))))))) 164 ((((mem 163 5) * 7) + 1) + (mem 3 x)) (q_w64 (((q_up (q_cp mem 164 (v * 7) 164 ((mem 163 5) * 7) 7) 164 ((mem 163 5) * 7) (q_w64 (((q_cp mem 164 (v * 7) 164 ((mem 163 5) * 7) 7) 164 ((mem 163 5) * 7)) + (q_w64 ((q_olshl w (6 * y)) - (q_olshl w (6 * x))))))) 164 ((((mem 163 5) * 7) + 1) + (mem 3 x))) - (q_olshl w (10 * (mem 3 y))))))) :
    q_At yX4_writeNext cX4_writeNext 6 none 1 0 0 (qK (q_rb b) Q) 0 [(2, 163), (0, v), (0, x), (0, y), (0, w), (4, 0)] [] (q_sh0, q_rb b, mem) := by
  refine q_aload_n dX4_writeNext_0 rfl rfl ?_
  refine qx_getI (ci := 4) (k := 5) (v := (mem 163 5)) dX4_writeNext_1 rfl rfl rfl tw334 rfl qs163 rfl ?_
  refine qx_bipush dX4_writeNext_4 rfl rfl ?_
  refine qx_imul dX4_writeNext_6 (o1).1 ?_
  refine qx_istore (L' := [(2, 163), (0, v), (0, x), (0, y), (0, w), (0, ((mem 163 5) * 7))]) dX4_writeNext_7 rfl rfl rfl ?_
  refine q_aload_n dX4_writeNext_9 rfl rfl ?_
  refine q_getR (ci := 4) (k := 1) dX4_writeNext_10 rfl (by decide) rfl tw330 (by decide) qs163 qw163_1 (by decide) ?_
  refine q_iload_n dX4_writeNext_13 rfl rfl ?_
  refine qx_bipush dX4_writeNext_14 rfl rfl ?_
  refine qx_imul dX4_writeNext_16 (o1).2.1 ?_
  refine q_aload_n dX4_writeNext_17 rfl rfl ?_
  refine q_getR (ci := 4) (k := 1) dX4_writeNext_18 rfl (by decide) rfl tw330 (by decide) qs163 qw163_1 (by decide) ?_
  refine q_iload dX4_writeNext_21 rfl ?_
  refine qx_bipush dX4_writeNext_23 rfl rfl ?_
  refine q_copyL dX4_writeNext_25 tw909 tw423 tw422 tw14 (by decide) (Nat.le_of_ble_eq_true rfl) qs164 qs164 (o1).2.2.1 (o1).2.2.2.1 (o1).2.2.2.2.1 (o1).2.2.2.2.2.1 (o1).2.2.2.2.2.2.1 ?_
  refine q_aload_n dX4_writeNext_28 rfl rfl ?_
  refine q_getR (ci := 4) (k := 1) dX4_writeNext_29 rfl (by decide) rfl tw330 (by decide) qs163 qw163_1 (by decide) ?_
  refine q_iload dX4_writeNext_32 rfl ?_
  refine q_dup2 dX4_writeNext_34 (fun h => by cases h) (fun h => by cases h) ?_
  refine qx_lald (v := ((q_cp mem 164 (v * 7) 164 ((mem 163 5) * 7) 7) 164 ((mem 163 5) * 7))) dX4_writeNext_35 qs164 (o1).2.2.2.2.2.2.2.1 rfl ?_
  refine q_iload dX4_writeNext_36 rfl ?_
  refine q_i2l dX4_writeNext_38 ?_
  refine qx_bipush dX4_writeNext_39 rfl rfl ?_
  refine q_iload_n dX4_writeNext_41 rfl rfl ?_
  refine qx_imul dX4_writeNext_42 (o1).2.2.2.2.2.2.2.2.1 ?_
  refine q_lshl dX4_writeNext_43 ?_
  refine q_iload dX4_writeNext_44 rfl ?_
  refine q_i2l dX4_writeNext_46 ?_
  refine qx_bipush dX4_writeNext_47 rfl rfl ?_
  refine q_iload_n dX4_writeNext_49 rfl rfl ?_
  refine qx_imul dX4_writeNext_50 (o1).2.2.2.2.2.2.2.2.2.1 ?_
  refine q_lshl dX4_writeNext_51 ?_
  refine q_lsub dX4_writeNext_52 ?_
  refine q_ladd dX4_writeNext_53 ?_
  refine q_last dX4_writeNext_54 qs164 ((o1).2.2.2.2.2.2.2.1).1 ((o1).2.2.2.2.2.2.2.1).2 ?_
  refine q_aload_n dX4_writeNext_55 rfl rfl ?_
  refine q_getR (ci := 4) (k := 1) dX4_writeNext_56 rfl (by decide) rfl tw330 (by decide) qs163 qw163_1 (by decide) ?_
  refine q_iload dX4_writeNext_59 rfl ?_
  refine qx_iconst dX4_writeNext_61 rfl rfl ?_
  refine qx_iadd dX4_writeNext_62 (o1).2.2.2.2.2.2.2.2.2.2.1 ?_
  refine q_aload_n dX4_writeNext_63 rfl rfl ?_
  refine q_getR (ci := 4) (k := 0) dX4_writeNext_64 rfl (by decide) rfl tw329 (by decide) qs163 qw163_0 (by decide) ?_
  refine q_getR (ci := 9) (k := 1) dX4_writeNext_67 rfl (by decide) rfl tw44 (by decide) qs1 qw1_1 (by decide) ?_
  refine q_iload_n dX4_writeNext_70 rfl rfl ?_
  refine qx_iald (v := (mem 3 x)) dX4_writeNext_71 qs3 (o1).2.2.2.2.2.2.2.2.2.2.2.1 ((q_up_c (by decide)).trans (q_cp_c (by decide))) ?_
  refine qx_iadd dX4_writeNext_72 (o1).2.2.2.2.2.2.2.2.2.2.2.2.1 ?_
  refine q_dup2 dX4_writeNext_73 (fun h => by cases h) (fun h => by cases h) ?_
  refine qx_lald (v := ((q_up (q_cp mem 164 (v * 7) 164 ((mem 163 5) * 7) 7) 164 ((mem 163 5) * 7) (q_w64 (((q_cp mem 164 (v * 7) 164 ((mem 163 5) * 7) 7) 164 ((mem 163 5) * 7)) + (q_w64 ((q_olshl w (6 * y)) - (q_olshl w (6 * x))))))) 164 ((((mem 163 5) * 7) + 1) + (mem 3 x)))) dX4_writeNext_74 qs164 (o1).2.2.2.2.2.2.2.2.2.2.2.2.2.1 rfl ?_
  refine q_iload dX4_writeNext_75 rfl ?_
  refine q_i2l dX4_writeNext_77 ?_
  refine qx_bipush dX4_writeNext_78 rfl rfl ?_
  refine q_aload_n dX4_writeNext_80 rfl rfl ?_
  refine q_getR (ci := 4) (k := 0) dX4_writeNext_81 rfl (by decide) rfl tw329 (by decide) qs163 qw163_0 (by decide) ?_
  refine q_getR (ci := 9) (k := 1) dX4_writeNext_84 rfl (by decide) rfl tw44 (by decide) qs1 qw1_1 (by decide) ?_
  refine q_iload_n dX4_writeNext_87 rfl rfl ?_
  refine qx_iald (v := (mem 3 y)) dX4_writeNext_88 qs3 (o1).2.2.2.2.2.2.2.2.2.2.2.2.2.2.1 ((q_up_c (by decide)).trans (q_cp_c (by decide))) ?_
  refine qx_imul dX4_writeNext_89 (o1).2.2.2.2.2.2.2.2.2.2.2.2.2.2.2 ?_
  refine q_lshl dX4_writeNext_90 ?_
  refine q_lsub dX4_writeNext_91 ?_
  refine q_last dX4_writeNext_92 qs164 ((o1).2.2.2.2.2.2.2.2.2.2.2.2.2.1).1 ((o1).2.2.2.2.2.2.2.2.2.2.2.2.2.1).2 ?_
  exact q_vret dX4_writeNext_93 (qK_i (l2))
theorem dX4_goOnFrom_0 : decode cX4_goOnFrom 0 = .ok (.iconst 0, 1) := by decide +kernel
theorem dX4_goOnFrom_1 : decode cX4_goOnFrom 1 = .ok (.istore_n 2, 1) := by decide +kernel
theorem dX4_goOnFrom_2 : decode cX4_goOnFrom 2 = .ok (.iload_n 2, 1) := by decide +kernel
theorem dX4_goOnFrom_3 : decode cX4_goOnFrom 3 = .ok (.aload_n 0, 1) := by decide +kernel
theorem dX4_goOnFrom_4 : decode cX4_goOnFrom 4 = .ok (.getfield 25, 3) := by decide +kernel
theorem dX4_goOnFrom_7 : decode cX4_goOnFrom 7 = .ok (.getfield 54, 3) := by decide +kernel
theorem dX4_goOnFrom_10 : decode cX4_goOnFrom 10 = .ok (.if_icmp .ge 112, 3) := by decide +kernel
theorem dX4_goOnFrom_13 : decode cX4_goOnFrom 13 = .ok (.aload_n 0, 1) := by decide +kernel
theorem dX4_goOnFrom_14 : decode cX4_goOnFrom 14 = .ok (.getfield 11, 3) := by decide +kernel
theorem dX4_goOnFrom_17 : decode cX4_goOnFrom 17 = .ok (.iload_n 1, 1) := by decide +kernel
theorem dX4_goOnFrom_18 : decode cX4_goOnFrom 18 = .ok (.bipush 7, 2) := by decide +kernel
theorem dX4_goOnFrom_20 : decode cX4_goOnFrom 20 = .ok (.imul, 1) := by decide +kernel
theorem dX4_goOnFrom_21 : decode cX4_goOnFrom 21 = .ok (.iconst 1, 1) := by decide +kernel
theorem dX4_goOnFrom_22 : decode cX4_goOnFrom 22 = .ok (.iadd, 1) := by decide +kernel
theorem dX4_goOnFrom_23 : decode cX4_goOnFrom 23 = .ok (.aload_n 0, 1) := by decide +kernel
theorem dX4_goOnFrom_24 : decode cX4_goOnFrom 24 = .ok (.getfield 25, 3) := by decide +kernel
theorem dX4_goOnFrom_27 : decode cX4_goOnFrom 27 = .ok (.getfield 65, 3) := by decide +kernel
theorem dX4_goOnFrom_30 : decode cX4_goOnFrom 30 = .ok (.iload_n 2, 1) := by decide +kernel
theorem dX4_goOnFrom_31 : decode cX4_goOnFrom 31 = .ok (.iaload, 1) := by decide +kernel
theorem dX4_goOnFrom_32 : decode cX4_goOnFrom 32 = .ok (.iadd, 1) := by decide +kernel
theorem dX4_goOnFrom_33 : decode cX4_goOnFrom 33 = .ok (.laload, 1) := by decide +kernel
theorem dX4_goOnFrom_34 : decode cX4_goOnFrom 34 = .ok (.lconst 0, 1) := by decide +kernel
theorem dX4_goOnFrom_35 : decode cX4_goOnFrom 35 = .ok (.lcmp, 1) := by decide +kernel
theorem dX4_goOnFrom_36 : decode cX4_goOnFrom 36 = .ok (.ifCond .eq 80, 3) := by decide +kernel
theorem dX4_goOnFrom_39 : decode cX4_goOnFrom 39 = .ok (.aload_n 0, 1) := by decide +kernel
theorem dX4_goOnFrom_40 : decode cX4_goOnFrom 40 = .ok (.iload_n 1, 1) := by decide +kernel
theorem dX4_goOnFrom_41 : decode cX4_goOnFrom 41 = .ok (.iload_n 2, 1) := by decide +kernel
theorem dX4_goOnFrom_42 : decode cX4_goOnFrom 42 = .ok (.invokevirtual 68, 3) := by decide +kernel
theorem dX4_goOnFrom_45 : decode cX4_goOnFrom 45 = .ok (.ifCond .ne 6, 3) := by decide +kernel
theorem dX4_goOnFrom_48 : decode cX4_goOnFrom 48 = .ok (.goto 68, 3) := by decide +kernel
theorem dX4_goOnFrom_51 : decode cX4_goOnFrom 51 = .ok (.iconst 0, 1) := by decide +kernel
theorem dX4_goOnFrom_52 : decode cX4_goOnFrom 52 = .ok (.istore_n 3, 1) := by decide +kernel
theorem dX4_goOnFrom_53 : decode cX4_goOnFrom 53 = .ok (.iload_n 3, 1) := by decide +kernel
theorem dX4_goOnFrom_54 : decode cX4_goOnFrom 54 = .ok (.aload_n 0, 1) := by decide +kernel
theorem dX4_goOnFrom_55 : decode cX4_goOnFrom 55 = .ok (.getfield 25, 3) := by decide +kernel
theorem dX4_goOnFrom_58 : decode cX4_goOnFrom 58 = .ok (.getfield 54, 3) := by decide +kernel
theorem dX4_goOnFrom_61 : decode cX4_goOnFrom 61 = .ok (.if_icmp .ge 55, 3) := by decide +kernel
theorem dX4_goOnFrom_64 : decode cX4_goOnFrom 64 = .ok (.aload_n 0, 1) := by decide +kernel
theorem dX4_goOnFrom_65 : decode cX4_goOnFrom 65 = .ok (.iload_n 1, 1) := by decide +kernel
theorem dX4_goOnFrom_66 : decode cX4_goOnFrom 66 = .ok (.iload_n 2, 1) := by decide +kernel
theorem dX4_goOnFrom_67 : decode cX4_goOnFrom 67 = .ok (.iload_n 3, 1) := by decide +kernel
theorem dX4_goOnFrom_68 : decode cX4_goOnFrom 68 = .ok (.invokevirtual 72, 3) := by decide +kernel
theorem dX4_goOnFrom_71 : decode cX4_goOnFrom 71 = .ok (.istore 4, 2) := by decide +kernel
theorem dX4_goOnFrom_73 : decode cX4_goOnFrom 73 = .ok (.iload 4, 2) := by decide +kernel
theorem dX4_goOnFrom_75 : decode cX4_goOnFrom 75 = .ok (.ifCond .le 35, 3) := by decide +kernel
theorem dX4_goOnFrom_78 : decode cX4_goOnFrom 78 = .ok (.aload_n 0, 1) := by decide +kernel
theorem dX4_goOnFrom_79 : decode cX4_goOnFrom 79 = .ok (.iload_n 1, 1) := by decide +kernel
theorem dX4_goOnFrom_80 : decode cX4_goOnFrom 80 = .ok (.iload_n 2, 1) := by decide +kernel
theorem dX4_goOnFrom_81 : decode cX4_goOnFrom 81 = .ok (.iload_n 3, 1) := by decide +kernel
theorem dX4_goOnFrom_82 : decode cX4_goOnFrom 82 = .ok (.iload 4, 2) := by decide +kernel
theorem dX4_goOnFrom_84 : decode cX4_goOnFrom 84 = .ok (.invokevirtual 76, 3) := by decide +kernel
theorem dX4_goOnFrom_87 : decode cX4_goOnFrom 87 = .ok (.aload_n 0, 1) := by decide +kernel
theorem dX4_goOnFrom_88 : decode cX4_goOnFrom 88 = .ok (.iload_n 1, 1) := by decide +kernel
theorem dX4_goOnFrom_89 : decode cX4_goOnFrom 89 = .ok (.sipush 1000, 3) := by decide +kernel
theorem dX4_goOnFrom_92 : decode cX4_goOnFrom 92 = .ok (.iload_n 2, 1) := by decide +kernel
theorem dX4_goOnFrom_93 : decode cX4_goOnFrom 93 = .ok (.imul, 1) := by decide +kernel
theorem dX4_goOnFrom_94 : decode cX4_goOnFrom 94 = .ok (.bipush 100, 2) := by decide +kernel
theorem dX4_goOnFrom_96 : decode cX4_goOnFrom 96 = .ok (.iload_n 3, 1) := by decide +kernel
theorem dX4_goOnFrom_97 : decode cX4_goOnFrom 97 = .ok (.imul, 1) := by decide +kernel
theorem dX4_goOnFrom_98 : decode cX4_goOnFrom 98 = .ok (.iadd, 1) := by decide +kernel
theorem dX4_goOnFrom_99 : decode cX4_goOnFrom 99 = .ok (.iload 4, 2) := by decide +kernel
theorem dX4_goOnFrom_101 : decode cX4_goOnFrom 101 = .ok (.iadd, 1) := by decide +kernel
theorem dX4_goOnFrom_102 : decode cX4_goOnFrom 102 = .ok (.invokevirtual 43, 3) := by decide +kernel
theorem dX4_goOnFrom_105 : decode cX4_goOnFrom 105 = .ok (.ifCond .ne 5, 3) := by decide +kernel
theorem dX4_goOnFrom_108 : decode cX4_goOnFrom 108 = .ok (.iconst 0, 1) := by decide +kernel
theorem dX4_goOnFrom_109 : decode cX4_goOnFrom 109 = .ok (.ireturn, 1) := by decide +kernel
theorem dX4_goOnFrom_110 : decode cX4_goOnFrom 110 = .ok (.iinc 3 1, 3) := by decide +kernel
theorem dX4_goOnFrom_113 : decode cX4_goOnFrom 113 = .ok (.goto (-60), 3) := by decide +kernel
theorem dX4_goOnFrom_116 : decode cX4_goOnFrom 116 = .ok (.iinc 2 1, 3) := by decide +kernel
theorem dX4_goOnFrom_119 : decode cX4_goOnFrom 119 = .ok (.goto (-117), 3) := by decide +kernel
theorem dX4_goOnFrom_122 : decode cX4_goOnFrom 122 = .ok (.iconst 1, 1) := by decide +kernel
theorem dX4_goOnFrom_123 : decode cX4_goOnFrom 123 = .ok (.ireturn, 1) := by decide +kernel
theorem bkX4_goOnFrom_0 {b : Int} {mem : qm} {Q : Int → qm → Prop}
    {v : Int}
    (l1 : q_At yX4_goOnFrom cX4_goOnFrom 5 (some .boolean) 4 0 0 (qK (q_rb b) Q) 2 [(2, 163), (0, v), (0, 0), (4, 0), (4, 0)] [] (q_sh0, q_rb b, mem)) :
    q_At yX4_goOnFrom cX4_goOnFrom 5 (some .boolean) 4 0 0 (qK (q_rb b) Q) 0 [(2, 163), (0, v), (4, 0), (4, 0), (4, 0)] [] (q_sh0, q_rb b, mem) := by
  refine qx_iconst dX4_goOnFrom_0 rfl rfl ?_
  refine qx_istore_n (L' := [(2, 163), (0, v), (0, 0), (4, 0), (4, 0)]) dX4_goOnFrom_1 rfl rfl rfl rfl ?_
  exact l1
theorem bkX4_goOnFrom_2 {b : Int} {mem : qm} {Q : Int → qm → Prop}
    {v v2 : Int}
    (l1 : (mem 1 3) ≤ v2 → Q 1 mem)
    (o2 : v2 < (mem 1 3) → q_in32 (v * 7) ∧ q_in32 ((v * 7) + 1) ∧ (0 ≤ v2 ∧ v2 < 9) ∧ q_in32 (((v * 7) + 1) + (mem 3 v2)) ∧ (0 ≤ (((v * 7) + 1) + (mem 3 v2)) ∧ (((v * 7) + 1) + (mem 3 v2)) < 21007))
    (o3 : v2 < (mem 1 3) → (q_olcmp (mem 164 (((v * 7) + 1) + (mem 3 v2))) 0) = 0 → q_in32 (v2 + 1))
    (l4 : v2 < (mem 1 3) → (q_olcmp (mem 164 (((v * 7) + 1) + (mem 3 v2))) 0) = 0 → q_At yX4_goOnFrom cX4_goOnFrom 5 (some .boolean) 4 0 0 (qK (q_rb b) Q) 2 [(2, 163), (0, v), (0, (v2 + 1)), (4, 0), (4, 0)] [] (q_sh0, q_rb b, mem))
    {P3 : Int → qm → Prop}
    (l5 : v2 < (mem 1 3) → (q_olcmp (mem 164 (((v * 7) + 1) + (mem 3 v2))) 0) ≠ 0 → q_Ev yX4_levelIn cX4_levelIn 3 (some .int) 1 0 0 [(2, 163), (0, v), (0, v2)] (q_sh0, q_rb b, mem) (qK (q_rb b) (P3)))
    (l6 : v2 < (mem 1 3) → (q_olcmp (mem 164 (((v * 7) + 1) + (mem 3 v2))) 0) ≠ 0 → ∀ (r3 : Int), ∀ (m3 : qm), P3 r3 m3 → q_in32 r3 → r3 ≠ 0 → q_At yX4_goOnFrom cX4_goOnFrom 5 (some .boolean) 4 0 0 (qK (q_rb b) Q) 53 [(2, 163), (0, v), (0, v2), (0, 0), (4, 0)] [] (q_sh0, q_rb b, m3))
    (o7 : v2 < (mem 1 3) → (q_olcmp (mem 164 (((v * 7) + 1) + (mem 3 v2))) 0) ≠ 0 → ∀ (r3 : Int), ∀ (m3 : qm), P3 r3 m3 → q_in32 r3 → r3 = 0 → q_in32 (v2 + 1))
    (l8 : v2 < (mem 1 3) → (q_olcmp (mem 164 (((v * 7) + 1) + (mem 3 v2))) 0) ≠ 0 → ∀ (r3 : Int), ∀ (m3 : qm), P3 r3 m3 → q_in32 r3 → r3 = 0 → q_At yX4_goOnFrom cX4_goOnFrom 5 (some .boolean) 4 0 0 (qK (q_rb b) Q) 2 [(2, 163), (0, v), (0, (v2 + 1)), (4, 0), (4, 0)] [] (q_sh0, q_rb b, m3)) :
    q_At yX4_goOnFrom cX4_goOnFrom 5 (some .boolean) 4 0 0 (qK (q_rb b) Q) 2 [(2, 163), (0, v), (0, v2), (4, 0), (4, 0)] [] (q_sh0, q_rb b, mem) := by
  refine q_iload_n dX4_goOnFrom_2 rfl rfl ?_
  refine q_aload_n dX4_goOnFrom_3 rfl rfl ?_
  refine q_getR (ci := 4) (k := 0) dX4_goOnFrom_4 rfl (by decide) rfl tw329 (by decide) qs163 qw163_0 (by decide) ?_
  refine qx_getI (ci := 9) (k := 3) (v := (mem 1 3)) dX4_goOnFrom_7 rfl rfl rfl tw52 rfl qs1 rfl ?_
  refine qx_icmp_ge (tgt := 122) dX4_goOnFrom_10 (by decide) (fun c1 => ?_) (fun c1 => ?_)
  · skip
    refine qx_iconst dX4_goOnFrom_122 rfl rfl ?_
    exact q_zret dX4_goOnFrom_123 (by decide) (qK_i (l1 c1))
  · skip
    refine q_aload_n dX4_goOnFrom_13 rfl rfl ?_
    refine q_getR (ci := 4) (k := 1) dX4_goOnFrom_14 rfl (by decide) rfl tw330 (by decide) qs163 qw163_1 (by decide) ?_
    refine q_iload_n dX4_goOnFrom_17 rfl rfl ?_
    refine qx_bipush dX4_goOnFrom_18 rfl rfl ?_
    refine qx_imul dX4_goOnFrom_20 (o2 c1).1 ?_
    refine qx_iconst dX4_goOnFrom_21 rfl rfl ?_
    refine qx_iadd dX4_goOnFrom_22 (o2 c1).2.1 ?_
    refine q_aload_n dX4_goOnFrom_23 rfl rfl ?_
    refine q_getR (ci := 4) (k := 0) dX4_goOnFrom_24 rfl (by decide) rfl tw329 (by decide) qs163 qw163_0 (by decide) ?_
    refine q_getR (ci := 9) (k := 1) dX4_goOnFrom_27 rfl (by decide) rfl tw44 (by decide) qs1 qw1_1 (by decide) ?_
    refine q_iload_n dX4_goOnFrom_30 rfl rfl ?_
    refine qx_iald (v := (mem 3 v2)) dX4_goOnFrom_31 qs3 (o2 c1).2.2.1 rfl ?_
    refine qx_iadd dX4_goOnFrom_32 (o2 c1).2.2.2.1 ?_
    refine qx_lald (v := (mem 164 (((v * 7) + 1) + (mem 3 v2)))) dX4_goOnFrom_33 qs164 (o2 c1).2.2.2.2 rfl ?_
    refine q_lconst (v := 0) dX4_goOnFrom_34 rfl ⟨by decide, by decide⟩ ?_
    refine q_lcmp dX4_goOnFrom_35 ?_
    refine qx_if_eq (tgt := 116) dX4_goOnFrom_36 (by decide) (fun c2 => ?_) (fun c2 => ?_)
    · skip
      refine qx_iinc (L' := [(2, 163), (0, v), (0, (v2 + 1)), (4, 0), (4, 0)]) dX4_goOnFrom_116 rfl rfl rfl (o3 c1 c2) rfl ?_
      refine q_goto (tgt := 2) dX4_goOnFrom_119 (by decide) ?_
      exact l4 c1 c2
    · skip
      refine q_aload_n dX4_goOnFrom_39 rfl rfl ?_
      refine q_iload_n dX4_goOnFrom_40 rfl rfl ?_
      refine q_iload_n dX4_goOnFrom_41 rfl rfl ?_
      refine qx_invV (ci := 4) [(0, v), (0, v2)] [(0, v2), (0, v), (2, 163)] rfl qM_X4_levelIn dX4_goOnFrom_42 tw896 rfl qs163 rfl rfl rfl rfl (l5 c1 c2) (fun r3 m3 p3 q3 => ?_)
      refine qx_if_ne (tgt := 51) dX4_goOnFrom_45 (by decide) (fun c4 => ?_) (fun c4 => ?_)
      · skip
        refine qx_iconst dX4_goOnFrom_51 rfl rfl ?_
        refine qx_istore_n (L' := [(2, 163), (0, v), (0, v2), (0, 0), (4, 0)]) dX4_goOnFrom_52 rfl rfl rfl rfl ?_
        exact l6 c1 c2 r3 m3 p3 q3 c4
      · skip
        refine q_goto (tgt := 116) dX4_goOnFrom_48 (by decide) ?_
        refine qx_iinc (L' := [(2, 163), (0, v), (0, (v2 + 1)), (4, 0), (4, 0)]) dX4_goOnFrom_116 rfl rfl rfl (o7 c1 c2 r3 m3 p3 q3 c4) rfl ?_
        refine q_goto (tgt := 2) dX4_goOnFrom_119 (by decide) ?_
        exact l8 c1 c2 r3 m3 p3 q3 c4
theorem bkX4_goOnFrom_53 {b : Int} {mem : qm} {Q : Int → qm → Prop}
    {v v2 v3 : Int}
    (o1 : (mem 1 3) ≤ v3 → q_in32 (v2 + 1))
    (l2 : (mem 1 3) ≤ v3 → q_At yX4_goOnFrom cX4_goOnFrom 5 (some .boolean) 4 0 0 (qK (q_rb b) Q) 2 [(2, 163), (0, v), (0, (v2 + 1)), (4, 0), (4, 0)] [] (q_sh0, q_rb b, mem))
    {P2 : Int → qm → Prop}
    (l3 : v3 < (mem 1 3) → q_Ev yX4_canPay cX4_canPay 7 (some .int) 2 0 0 [(2, 163), (0, v), (0, v2), (0, v3)] (q_sh0, q_rb b, mem) (qK (q_rb b) (P2)))
    (o4 : v3 < (mem 1 3) → ∀ (r2 : Int), ∀ (m2 : qm), P2 r2 m2 → q_in32 r2 → r2 ≤ 0 → q_in32 (v3 + 1))
    (l5 : v3 < (mem 1 3) → ∀ (r2 : Int), ∀ (m2 : qm), P2 r2 m2 → q_in32 r2 → r2 ≤ 0 → q_At yX4_goOnFrom cX4_goOnFrom 5 (some .boolean) 4 0 0 (qK (q_rb b) Q) 53 [(2, 163), (0, v), (0, v2), (0, (v3 + 1)), (4, 0)] [] (q_sh0, q_rb b, m2))
    {P4 : Int → qm → Int → qm → Prop}
    (l6 : v3 < (mem 1 3) → ∀ (r2 : Int), ∀ (m2 : qm), P2 r2 m2 → q_in32 r2 → 0 < r2 → q_Ev yX4_writeNext cX4_writeNext 6 none 1 0 0 [(2, 163), (0, v), (0, v2), (0, v3), (0, r2)] (q_sh0, q_rb b, m2) (qK (q_rb b) (P4 r2 m2)))
    (o7 : v3 < (mem 1 3) → ∀ (r2 : Int), ∀ (m2 : qm), P2 r2 m2 → q_in32 r2 → 0 < r2 → ∀ (r4 : Int), ∀ (m4 : qm), P4 r2 m2 r4 m4 → q_in32 r4 → q_in32 (1000 * v2) ∧ q_in32 (100 * v3) ∧ q_in32 ((1000 * v2) + (100 * v3)) ∧ q_in32 (((1000 * v2) + (100 * v3)) + r2))
    {P5 : Int → qm → Int → qm → Int → qm → Prop}
    (l8 : v3 < (mem 1 3) → ∀ (r2 : Int), ∀ (m2 : qm), P2 r2 m2 → q_in32 r2 → 0 < r2 → ∀ (r4 : Int), ∀ (m4 : qm), P4 r2 m2 r4 m4 → q_in32 r4 → q_Ev yX4_enter cX4_enter 4 (some .boolean) 3 0 0 [(2, 163), (0, v), (0, (((1000 * v2) + (100 * v3)) + r2))] (q_sh0, q_rb b, m4) (qK (q_rb b) (P5 r2 m2 r4 m4)))
    (o9 : v3 < (mem 1 3) → ∀ (r2 : Int), ∀ (m2 : qm), P2 r2 m2 → q_in32 r2 → 0 < r2 → ∀ (r4 : Int), ∀ (m4 : qm), P4 r2 m2 r4 m4 → q_in32 r4 → ∀ (r5 : Int), ∀ (m5 : qm), P5 r2 m2 r4 m4 r5 m5 → q_in32 r5 → r5 ≠ 0 → q_in32 (v3 + 1))
    (l10 : v3 < (mem 1 3) → ∀ (r2 : Int), ∀ (m2 : qm), P2 r2 m2 → q_in32 r2 → 0 < r2 → ∀ (r4 : Int), ∀ (m4 : qm), P4 r2 m2 r4 m4 → q_in32 r4 → ∀ (r5 : Int), ∀ (m5 : qm), P5 r2 m2 r4 m4 r5 m5 → q_in32 r5 → r5 ≠ 0 → q_At yX4_goOnFrom cX4_goOnFrom 5 (some .boolean) 4 0 0 (qK (q_rb b) Q) 53 [(2, 163), (0, v), (0, v2), (0, (v3 + 1)), (4, 0)] [] (q_sh0, q_rb b, m5))
    (l11 : v3 < (mem 1 3) → ∀ (r2 : Int), ∀ (m2 : qm), P2 r2 m2 → q_in32 r2 → 0 < r2 → ∀ (r4 : Int), ∀ (m4 : qm), P4 r2 m2 r4 m4 → q_in32 r4 → ∀ (r5 : Int), ∀ (m5 : qm), P5 r2 m2 r4 m4 r5 m5 → q_in32 r5 → r5 = 0 → Q 0 m5) :
    q_At yX4_goOnFrom cX4_goOnFrom 5 (some .boolean) 4 0 0 (qK (q_rb b) Q) 53 [(2, 163), (0, v), (0, v2), (0, v3), (4, 0)] [] (q_sh0, q_rb b, mem) := by
  refine q_iload_n dX4_goOnFrom_53 rfl rfl ?_
  refine q_aload_n dX4_goOnFrom_54 rfl rfl ?_
  refine q_getR (ci := 4) (k := 0) dX4_goOnFrom_55 rfl (by decide) rfl tw329 (by decide) qs163 qw163_0 (by decide) ?_
  refine qx_getI (ci := 9) (k := 3) (v := (mem 1 3)) dX4_goOnFrom_58 rfl rfl rfl tw52 rfl qs1 rfl ?_
  refine qx_icmp_ge (tgt := 116) dX4_goOnFrom_61 (by decide) (fun c1 => ?_) (fun c1 => ?_)
  · skip
    refine qx_iinc (L' := [(2, 163), (0, v), (0, (v2 + 1)), (0, v3), (4, 0)]) dX4_goOnFrom_116 rfl rfl rfl (o1 c1) rfl ?_
    refine q_goto (tgt := 2) dX4_goOnFrom_119 (by decide) ?_
    refine q_kill (L' := [(2, 163), (0, v), (0, (v2 + 1)), (4, 0), (4, 0)]) 3 rfl ?_
    exact l2 c1
  · skip
    refine q_aload_n dX4_goOnFrom_64 rfl rfl ?_
    refine q_iload_n dX4_goOnFrom_65 rfl rfl ?_
    refine q_iload_n dX4_goOnFrom_66 rfl rfl ?_
    refine q_iload_n dX4_goOnFrom_67 rfl rfl ?_
    refine qx_invV (ci := 4) [(0, v), (0, v2), (0, v3)] [(0, v3), (0, v2), (0, v), (2, 163)] rfl qM_X4_canPay dX4_goOnFrom_68 tw900 rfl qs163 rfl rfl rfl rfl (l3 c1) (fun r2 m2 p2 q2 => ?_)
    refine qx_istore (L' := [(2, 163), (0, v), (0, v2), (0, v3), (0, r2)]) dX4_goOnFrom_71 rfl rfl rfl ?_
    refine q_iload dX4_goOnFrom_73 rfl ?_
    refine qx_if_le (tgt := 110) dX4_goOnFrom_75 (by decide) (fun c3 => ?_) (fun c3 => ?_)
    · skip
      refine qx_iinc (L' := [(2, 163), (0, v), (0, v2), (0, (v3 + 1)), (0, r2)]) dX4_goOnFrom_110 rfl rfl rfl (o4 c1 r2 m2 p2 q2 c3) rfl ?_
      refine q_goto (tgt := 53) dX4_goOnFrom_113 (by decide) ?_
      refine q_kill (L' := [(2, 163), (0, v), (0, v2), (0, (v3 + 1)), (4, 0)]) 4 rfl ?_
      exact l5 c1 r2 m2 p2 q2 c3
    · skip
      refine q_aload_n dX4_goOnFrom_78 rfl rfl ?_
      refine q_iload_n dX4_goOnFrom_79 rfl rfl ?_
      refine q_iload_n dX4_goOnFrom_80 rfl rfl ?_
      refine q_iload_n dX4_goOnFrom_81 rfl rfl ?_
      refine q_iload dX4_goOnFrom_82 rfl ?_
      refine qx_invV (ci := 4) [(0, v), (0, v2), (0, v3), (0, r2)] [(0, r2), (0, v3), (0, v2), (0, v), (2, 163)] rfl qM_X4_writeNext dX4_goOnFrom_84 tw905 rfl qs163 rfl rfl rfl rfl (l6 c1 r2 m2 p2 q2 c3) (fun r4 m4 p4 q4 => ?_)
      refine q_aload_n dX4_goOnFrom_87 rfl rfl ?_
      refine q_iload_n dX4_goOnFrom_88 rfl rfl ?_
      refine qx_sipush dX4_goOnFrom_89 rfl rfl ?_
      refine q_iload_n dX4_goOnFrom_92 rfl rfl ?_
      refine qx_imul dX4_goOnFrom_93 (o7 c1 r2 m2 p2 q2 c3 r4 m4 p4 q4).1 ?_
      refine qx_bipush dX4_goOnFrom_94 rfl rfl ?_
      refine q_iload_n dX4_goOnFrom_96 rfl rfl ?_
      refine qx_imul dX4_goOnFrom_97 (o7 c1 r2 m2 p2 q2 c3 r4 m4 p4 q4).2.1 ?_
      refine qx_iadd dX4_goOnFrom_98 (o7 c1 r2 m2 p2 q2 c3 r4 m4 p4 q4).2.2.1 ?_
      refine q_iload dX4_goOnFrom_99 rfl ?_
      refine qx_iadd dX4_goOnFrom_101 (o7 c1 r2 m2 p2 q2 c3 r4 m4 p4 q4).2.2.2 ?_
      refine qx_invV (ci := 4) [(0, v), (0, (((1000 * v2) + (100 * v3)) + r2))] [(0, (((1000 * v2) + (100 * v3)) + r2)), (0, v), (2, 163)] rfl qM_X4_enter dX4_goOnFrom_102 tw874 rfl qs163 rfl rfl rfl rfl (l8 c1 r2 m2 p2 q2 c3 r4 m4 p4 q4) (fun r5 m5 p5 q5 => ?_)
      refine qx_if_ne (tgt := 110) dX4_goOnFrom_105 (by decide) (fun c6 => ?_) (fun c6 => ?_)
      · skip
        refine qx_iinc (L' := [(2, 163), (0, v), (0, v2), (0, (v3 + 1)), (0, r2)]) dX4_goOnFrom_110 rfl rfl rfl (o9 c1 r2 m2 p2 q2 c3 r4 m4 p4 q4 r5 m5 p5 q5 c6) rfl ?_
        refine q_goto (tgt := 53) dX4_goOnFrom_113 (by decide) ?_
        refine q_kill (L' := [(2, 163), (0, v), (0, v2), (0, (v3 + 1)), (4, 0)]) 4 rfl ?_
        exact l10 c1 r2 m2 p2 q2 c3 r4 m4 p4 q4 r5 m5 p5 q5 c6
      · skip
        refine qx_iconst dX4_goOnFrom_108 rfl rfl ?_
        exact q_zret dX4_goOnFrom_109 (by decide) (qK_i (l11 c1 r2 m2 p2 q2 c3 r4 m4 p4 q4 r5 m5 p5 q5 c6))
theorem dX4_isPaid_0 : decode cX4_isPaid 0 = .ok (.iconst 0, 1) := by decide +kernel
theorem dX4_isPaid_1 : decode cX4_isPaid 1 = .ok (.istore_n 2, 1) := by decide +kernel
theorem dX4_isPaid_2 : decode cX4_isPaid 2 = .ok (.iload_n 2, 1) := by decide +kernel
theorem dX4_isPaid_3 : decode cX4_isPaid 3 = .ok (.bipush 6, 2) := by decide +kernel
theorem dX4_isPaid_5 : decode cX4_isPaid 5 = .ok (.if_icmp .ge 29, 3) := by decide +kernel
theorem dX4_isPaid_8 : decode cX4_isPaid 8 = .ok (.aload_n 0, 1) := by decide +kernel
theorem dX4_isPaid_9 : decode cX4_isPaid 9 = .ok (.getfield 11, 3) := by decide +kernel
theorem dX4_isPaid_12 : decode cX4_isPaid 12 = .ok (.iload_n 1, 1) := by decide +kernel
theorem dX4_isPaid_13 : decode cX4_isPaid 13 = .ok (.bipush 7, 2) := by decide +kernel
theorem dX4_isPaid_15 : decode cX4_isPaid 15 = .ok (.imul, 1) := by decide +kernel
theorem dX4_isPaid_16 : decode cX4_isPaid 16 = .ok (.iconst 1, 1) := by decide +kernel
theorem dX4_isPaid_17 : decode cX4_isPaid 17 = .ok (.iadd, 1) := by decide +kernel
theorem dX4_isPaid_18 : decode cX4_isPaid 18 = .ok (.iload_n 2, 1) := by decide +kernel
theorem dX4_isPaid_19 : decode cX4_isPaid 19 = .ok (.iadd, 1) := by decide +kernel
theorem dX4_isPaid_20 : decode cX4_isPaid 20 = .ok (.laload, 1) := by decide +kernel
theorem dX4_isPaid_21 : decode cX4_isPaid 21 = .ok (.lconst 0, 1) := by decide +kernel
theorem dX4_isPaid_22 : decode cX4_isPaid 22 = .ok (.lcmp, 1) := by decide +kernel
theorem dX4_isPaid_23 : decode cX4_isPaid 23 = .ok (.ifCond .eq 5, 3) := by decide +kernel
theorem dX4_isPaid_26 : decode cX4_isPaid 26 = .ok (.iconst 0, 1) := by decide +kernel
theorem dX4_isPaid_27 : decode cX4_isPaid 27 = .ok (.ireturn, 1) := by decide +kernel
theorem dX4_isPaid_28 : decode cX4_isPaid 28 = .ok (.iinc 2 1, 3) := by decide +kernel
theorem dX4_isPaid_31 : decode cX4_isPaid 31 = .ok (.goto (-29), 3) := by decide +kernel
theorem dX4_isPaid_34 : decode cX4_isPaid 34 = .ok (.iconst 1, 1) := by decide +kernel
theorem dX4_isPaid_35 : decode cX4_isPaid 35 = .ok (.ireturn, 1) := by decide +kernel
theorem bkX4_isPaid_0 {b : Int} {mem : qm} {Q : Int → qm → Prop}
    {v : Int}
    (l1 : q_At yX4_isPaid cX4_isPaid 3 (some .boolean) 1 0 0 (qK (q_rb b) Q) 2 [(2, 163), (0, v), (0, 0)] [] (q_sh0, q_rb b, mem)) :
    q_At yX4_isPaid cX4_isPaid 3 (some .boolean) 1 0 0 (qK (q_rb b) Q) 0 [(2, 163), (0, v), (4, 0)] [] (q_sh0, q_rb b, mem) := by
  refine qx_iconst dX4_isPaid_0 rfl rfl ?_
  refine qx_istore_n (L' := [(2, 163), (0, v), (0, 0)]) dX4_isPaid_1 rfl rfl rfl rfl ?_
  exact l1
theorem bkX4_isPaid_2 {b : Int} {mem : qm} {Q : Int → qm → Prop}
    {v v2 : Int}
    (l1 : 6 ≤ v2 → Q 1 mem)
    (o2 : v2 < 6 → q_in32 (v * 7) ∧ q_in32 ((v * 7) + 1) ∧ q_in32 (((v * 7) + 1) + v2) ∧ (0 ≤ (((v * 7) + 1) + v2) ∧ (((v * 7) + 1) + v2) < 21007))
    (o3 : v2 < 6 → (q_olcmp (mem 164 (((v * 7) + 1) + v2)) 0) = 0 → q_in32 (v2 + 1))
    (l4 : v2 < 6 → (q_olcmp (mem 164 (((v * 7) + 1) + v2)) 0) = 0 → q_At yX4_isPaid cX4_isPaid 3 (some .boolean) 1 0 0 (qK (q_rb b) Q) 2 [(2, 163), (0, v), (0, (v2 + 1))] [] (q_sh0, q_rb b, mem))
    (l5 : v2 < 6 → (q_olcmp (mem 164 (((v * 7) + 1) + v2)) 0) ≠ 0 → Q 0 mem) :
    q_At yX4_isPaid cX4_isPaid 3 (some .boolean) 1 0 0 (qK (q_rb b) Q) 2 [(2, 163), (0, v), (0, v2)] [] (q_sh0, q_rb b, mem) := by
  refine q_iload_n dX4_isPaid_2 rfl rfl ?_
  refine qx_bipush dX4_isPaid_3 rfl rfl ?_
  refine qx_icmp_ge (tgt := 34) dX4_isPaid_5 (by decide) (fun c1 => ?_) (fun c1 => ?_)
  · skip
    refine qx_iconst dX4_isPaid_34 rfl rfl ?_
    exact q_zret dX4_isPaid_35 (by decide) (qK_i (l1 c1))
  · skip
    refine q_aload_n dX4_isPaid_8 rfl rfl ?_
    refine q_getR (ci := 4) (k := 1) dX4_isPaid_9 rfl (by decide) rfl tw330 (by decide) qs163 qw163_1 (by decide) ?_
    refine q_iload_n dX4_isPaid_12 rfl rfl ?_
    refine qx_bipush dX4_isPaid_13 rfl rfl ?_
    refine qx_imul dX4_isPaid_15 (o2 c1).1 ?_
    refine qx_iconst dX4_isPaid_16 rfl rfl ?_
    refine qx_iadd dX4_isPaid_17 (o2 c1).2.1 ?_
    refine q_iload_n dX4_isPaid_18 rfl rfl ?_
    refine qx_iadd dX4_isPaid_19 (o2 c1).2.2.1 ?_
    refine qx_lald (v := (mem 164 (((v * 7) + 1) + v2))) dX4_isPaid_20 qs164 (o2 c1).2.2.2 rfl ?_
    refine q_lconst (v := 0) dX4_isPaid_21 rfl ⟨by decide, by decide⟩ ?_
    refine q_lcmp dX4_isPaid_22 ?_
    refine qx_if_eq (tgt := 28) dX4_isPaid_23 (by decide) (fun c2 => ?_) (fun c2 => ?_)
    · skip
      refine qx_iinc (L' := [(2, 163), (0, v), (0, (v2 + 1))]) dX4_isPaid_28 rfl rfl rfl (o3 c1 c2) rfl ?_
      refine q_goto (tgt := 2) dX4_isPaid_31 (by decide) ?_
      exact l4 c1 c2
    · skip
      refine qx_iconst dX4_isPaid_26 rfl rfl ?_
      exact q_zret dX4_isPaid_27 (by decide) (qK_i (l5 c1 c2))
theorem dX4_search_0 : decode cX4_search 0 = .ok (.aload_n 0, 1) := by decide +kernel
theorem dX4_search_1 : decode cX4_search 1 = .ok (.getfield 22, 3) := by decide +kernel
theorem dX4_search_4 : decode cX4_search 4 = .ok (.iconst 0, 1) := by decide +kernel
theorem dX4_search_5 : decode cX4_search 5 = .ok (.invokestatic 29, 3) := by decide +kernel
theorem dX4_search_8 : decode cX4_search 8 = .ok (.aload_n 0, 1) := by decide +kernel
theorem dX4_search_9 : decode cX4_search 9 = .ok (.iconst 0, 1) := by decide +kernel
theorem dX4_search_10 : decode cX4_search 10 = .ok (.putfield 35, 3) := by decide +kernel
theorem dX4_search_13 : decode cX4_search 13 = .ok (.aload_n 0, 1) := by decide +kernel
theorem dX4_search_14 : decode cX4_search 14 = .ok (.aload_n 1, 1) := by decide +kernel
theorem dX4_search_15 : decode cX4_search 15 = .ok (.invokevirtual 39, 3) := by decide +kernel
theorem dX4_search_18 : decode cX4_search 18 = .ok (.aload_n 0, 1) := by decide +kernel
theorem dX4_search_19 : decode cX4_search 19 = .ok (.iconst 0, 1) := by decide +kernel
theorem dX4_search_20 : decode cX4_search 20 = .ok (.iconst 0, 1) := by decide +kernel
theorem dX4_search_21 : decode cX4_search 21 = .ok (.invokevirtual 43, 3) := by decide +kernel
theorem dX4_search_24 : decode cX4_search 24 = .ok (.pop, 1) := by decide +kernel
theorem dX4_search_25 : decode cX4_search 25 = .ok (.iconst 0, 1) := by decide +kernel
theorem dX4_search_26 : decode cX4_search 26 = .ok (.istore_n 2, 1) := by decide +kernel
theorem dX4_search_27 : decode cX4_search 27 = .ok (.iload_n 2, 1) := by decide +kernel
theorem dX4_search_28 : decode cX4_search 28 = .ok (.aload_n 0, 1) := by decide +kernel
theorem dX4_search_29 : decode cX4_search 29 = .ok (.getfield 35, 3) := by decide +kernel
theorem dX4_search_32 : decode cX4_search 32 = .ok (.if_icmp .ge 27, 3) := by decide +kernel
theorem dX4_search_35 : decode cX4_search 35 = .ok (.iload_n 2, 1) := by decide +kernel
theorem dX4_search_36 : decode cX4_search 36 = .ok (.sipush 3000, 3) := by decide +kernel
theorem dX4_search_39 : decode cX4_search 39 = .ok (.if_icmp .ge 20, 3) := by decide +kernel
theorem dX4_search_42 : decode cX4_search 42 = .ok (.aload_n 0, 1) := by decide +kernel
theorem dX4_search_43 : decode cX4_search 43 = .ok (.iload_n 2, 1) := by decide +kernel
theorem dX4_search_44 : decode cX4_search 44 = .ok (.invokevirtual 47, 3) := by decide +kernel
theorem dX4_search_47 : decode cX4_search 47 = .ok (.ifCond .ne 6, 3) := by decide +kernel
theorem dX4_search_50 : decode cX4_search 50 = .ok (.bipush (-3), 2) := by decide +kernel
theorem dX4_search_52 : decode cX4_search 52 = .ok (.ireturn, 1) := by decide +kernel
theorem dX4_search_53 : decode cX4_search 53 = .ok (.iinc 2 1, 3) := by decide +kernel
theorem dX4_search_56 : decode cX4_search 56 = .ok (.goto (-29), 3) := by decide +kernel
theorem dX4_search_59 : decode cX4_search 59 = .ok (.iconst 0, 1) := by decide +kernel
theorem dX4_search_60 : decode cX4_search 60 = .ok (.istore_n 2, 1) := by decide +kernel
theorem dX4_search_61 : decode cX4_search 61 = .ok (.iload_n 2, 1) := by decide +kernel
theorem dX4_search_62 : decode cX4_search 62 = .ok (.aload_n 0, 1) := by decide +kernel
theorem dX4_search_63 : decode cX4_search 63 = .ok (.getfield 35, 3) := by decide +kernel
theorem dX4_search_66 : decode cX4_search 66 = .ok (.if_icmp .ge 19, 3) := by decide +kernel
theorem dX4_search_69 : decode cX4_search 69 = .ok (.aload_n 0, 1) := by decide +kernel
theorem dX4_search_70 : decode cX4_search 70 = .ok (.iload_n 2, 1) := by decide +kernel
theorem dX4_search_71 : decode cX4_search 71 = .ok (.invokevirtual 51, 3) := by decide +kernel
theorem dX4_search_74 : decode cX4_search 74 = .ok (.ifCond .eq 5, 3) := by decide +kernel
theorem dX4_search_77 : decode cX4_search 77 = .ok (.iload_n 2, 1) := by decide +kernel
theorem dX4_search_78 : decode cX4_search 78 = .ok (.ireturn, 1) := by decide +kernel
theorem dX4_search_79 : decode cX4_search 79 = .ok (.iinc 2 1, 3) := by decide +kernel
theorem dX4_search_82 : decode cX4_search 82 = .ok (.goto (-21), 3) := by decide +kernel
theorem dX4_search_85 : decode cX4_search 85 = .ok (.bipush (-2), 2) := by decide +kernel
theorem dX4_search_87 : decode cX4_search 87 = .ok (.ireturn, 1) := by decide +kernel
theorem bkX4_search_0 {b : Int} {mem : qm} {Q : Int → qm → Prop}
    {s : Int}
    (hs : q_st s)
    {P1 : Int → qm → Prop}
    (l1 : q_Ev yJ7_fill_53178 cJ7_fill_53178 4 none 1 0 0 [(2, 167), (0, 0)] (q_sh0, q_rb b, mem) (qK (q_rb b) (P1)))
    {P2 : Int → qm → Int → qm → Prop}
    (l2 : ∀ (r1 : Int), ∀ (m1 : qm), P1 r1 m1 → q_in32 r1 → q_Ev yX4_writeStart cX4_writeStart 8 none 1 0 0 [(2, 163), (2, s)] (q_sh0, q_rb b, (q_up m1 163 5 0)) (qK (q_rb b) (P2 r1 m1)))
    {P3 : Int → qm → Int → qm → Int → qm → Prop}
    (l3 : ∀ (r1 : Int), ∀ (m1 : qm), P1 r1 m1 → q_in32 r1 → ∀ (r2 : Int), ∀ (m2 : qm), P2 r1 m1 r2 m2 → q_in32 r2 → q_Ev yX4_enter cX4_enter 4 (some .boolean) 3 0 0 [(2, 163), (0, 0), (0, 0)] (q_sh0, q_rb b, m2) (qK (q_rb b) (P3 r1 m1 r2 m2)))
    (l4 : ∀ (r1 : Int), ∀ (m1 : qm), P1 r1 m1 → q_in32 r1 → ∀ (r2 : Int), ∀ (m2 : qm), P2 r1 m1 r2 m2 → q_in32 r2 → ∀ (r3 : Int), ∀ (m3 : qm), P3 r1 m1 r2 m2 r3 m3 → q_in32 r3 → q_At yX4_search cX4_search 3 (some .int) 5 0 0 (qK (q_rb b) Q) 27 [(2, 163), (2, s), (0, 0)] [] (q_sh0, q_rb b, m3)) :
    q_At yX4_search cX4_search 3 (some .int) 5 0 0 (qK (q_rb b) Q) 0 [(2, 163), (2, s), (4, 0)] [] (q_sh0, q_rb b, mem) := by
  refine q_aload_n dX4_search_0 rfl rfl ?_
  refine q_getR (ci := 4) (k := 4) dX4_search_1 rfl (by decide) rfl tw333 (by decide) qs163 qw163_4 (by decide) ?_
  refine qx_iconst dX4_search_4 rfl rfl ?_
  refine qx_invS [(2, 167), (0, 0)] [(0, 0), (2, 167)] rfl qM_J7_fill_53178 dX4_search_5 tw869 rfl rfl rfl rfl (l1) (fun r1 m1 p1 q1 => ?_)
  refine q_aload_n dX4_search_8 rfl rfl ?_
  refine qx_iconst dX4_search_9 rfl rfl ?_
  refine q_putI (ci := 4) (k := 5) (kI := 5) (ty := .int) dX4_search_10 rfl (by decide) rfl tw334 rfl rfl rfl (fun _ => ⟨rfl, rfl⟩) qs163 ?_
  refine q_aload_n dX4_search_13 rfl rfl ?_
  refine q_aload_n dX4_search_14 rfl rfl ?_
  refine qx_invV (ci := 4) [(2, s)] [(2, s), (2, 163)] rfl qM_X4_writeStart dX4_search_15 tw870 rfl qs163 rfl rfl rfl rfl (l2 r1 m1 p1 q1) (fun r2 m2 p2 q2 => ?_)
  refine q_aload_n dX4_search_18 rfl rfl ?_
  refine qx_iconst dX4_search_19 rfl rfl ?_
  refine qx_iconst dX4_search_20 rfl rfl ?_
  refine qx_invV (ci := 4) [(0, 0), (0, 0)] [(0, 0), (0, 0), (2, 163)] rfl qM_X4_enter dX4_search_21 tw874 rfl qs163 rfl rfl rfl rfl (l3 r1 m1 p1 q1 r2 m2 p2 q2) (fun r3 m3 p3 q3 => ?_)
  refine q_pop dX4_search_24 (fun h => by cases h) ?_
  refine qx_iconst dX4_search_25 rfl rfl ?_
  refine qx_istore_n (L' := [(2, 163), (2, s), (0, 0)]) dX4_search_26 rfl rfl rfl rfl ?_
  exact l4 r1 m1 p1 q1 r2 m2 p2 q2 r3 m3 p3 q3
theorem bkX4_search_27 {b : Int} {mem : qm} {Q : Int → qm → Prop}
    {v2 s : Int}
    (hs : q_st s)
    (l1 : (mem 163 5) ≤ v2 → q_At yX4_search cX4_search 3 (some .int) 5 0 0 (qK (q_rb b) Q) 61 [(2, 163), (2, s), (0, 0)] [] (q_sh0, q_rb b, mem))
    (l2 : v2 < (mem 163 5) → 3000 ≤ v2 → q_At yX4_search cX4_search 3 (some .int) 5 0 0 (qK (q_rb b) Q) 61 [(2, 163), (2, s), (0, 0)] [] (q_sh0, q_rb b, mem))
    {P3 : Int → qm → Prop}
    (l3 : v2 < (mem 163 5) → v2 < 3000 → q_Ev yX4_goOnFrom cX4_goOnFrom 5 (some .boolean) 4 0 0 [(2, 163), (0, v2)] (q_sh0, q_rb b, mem) (qK (q_rb b) (P3)))
    (o4 : v2 < (mem 163 5) → v2 < 3000 → ∀ (r3 : Int), ∀ (m3 : qm), P3 r3 m3 → q_in32 r3 → r3 ≠ 0 → q_in32 (v2 + 1))
    (l5 : v2 < (mem 163 5) → v2 < 3000 → ∀ (r3 : Int), ∀ (m3 : qm), P3 r3 m3 → q_in32 r3 → r3 ≠ 0 → q_At yX4_search cX4_search 3 (some .int) 5 0 0 (qK (q_rb b) Q) 27 [(2, 163), (2, s), (0, (v2 + 1))] [] (q_sh0, q_rb b, m3))
    (l6 : v2 < (mem 163 5) → v2 < 3000 → ∀ (r3 : Int), ∀ (m3 : qm), P3 r3 m3 → q_in32 r3 → r3 = 0 → Q (-3) m3) :
    q_At yX4_search cX4_search 3 (some .int) 5 0 0 (qK (q_rb b) Q) 27 [(2, 163), (2, s), (0, v2)] [] (q_sh0, q_rb b, mem) := by
  refine q_iload_n dX4_search_27 rfl rfl ?_
  refine q_aload_n dX4_search_28 rfl rfl ?_
  refine qx_getI (ci := 4) (k := 5) (v := (mem 163 5)) dX4_search_29 rfl rfl rfl tw334 rfl qs163 rfl ?_
  refine qx_icmp_ge (tgt := 59) dX4_search_32 (by decide) (fun c1 => ?_) (fun c1 => ?_)
  · skip
    refine qx_iconst dX4_search_59 rfl rfl ?_
    refine qx_istore_n (L' := [(2, 163), (2, s), (0, 0)]) dX4_search_60 rfl rfl rfl rfl ?_
    exact l1 c1
  · skip
    refine q_iload_n dX4_search_35 rfl rfl ?_
    refine qx_sipush dX4_search_36 rfl rfl ?_
    refine qx_icmp_ge (tgt := 59) dX4_search_39 (by decide) (fun c2 => ?_) (fun c2 => ?_)
    · skip
      refine qx_iconst dX4_search_59 rfl rfl ?_
      refine qx_istore_n (L' := [(2, 163), (2, s), (0, 0)]) dX4_search_60 rfl rfl rfl rfl ?_
      exact l2 c1 c2
    · skip
      refine q_aload_n dX4_search_42 rfl rfl ?_
      refine q_iload_n dX4_search_43 rfl rfl ?_
      refine qx_invV (ci := 4) [(0, v2)] [(0, v2), (2, 163)] rfl qM_X4_goOnFrom dX4_search_44 tw892 rfl qs163 rfl rfl rfl rfl (l3 c1 c2) (fun r3 m3 p3 q3 => ?_)
      refine qx_if_ne (tgt := 53) dX4_search_47 (by decide) (fun c4 => ?_) (fun c4 => ?_)
      · skip
        refine qx_iinc (L' := [(2, 163), (2, s), (0, (v2 + 1))]) dX4_search_53 rfl rfl rfl (o4 c1 c2 r3 m3 p3 q3 c4) rfl ?_
        refine q_goto (tgt := 27) dX4_search_56 (by decide) ?_
        exact l5 c1 c2 r3 m3 p3 q3 c4
      · skip
        refine qx_bipush dX4_search_50 rfl rfl ?_
        exact q_iret dX4_search_52 (qK_i (l6 c1 c2 r3 m3 p3 q3 c4))
theorem bkX4_search_61 {b : Int} {mem : qm} {Q : Int → qm → Prop}
    {v2 s : Int}
    (hs : q_st s)
    (l1 : (mem 163 5) ≤ v2 → Q (-2) mem)
    {P2 : Int → qm → Prop}
    (l2 : v2 < (mem 163 5) → q_Ev yX4_isPaid cX4_isPaid 3 (some .boolean) 1 0 0 [(2, 163), (0, v2)] (q_sh0, q_rb b, mem) (qK (q_rb b) (P2)))
    (o3 : v2 < (mem 163 5) → ∀ (r2 : Int), ∀ (m2 : qm), P2 r2 m2 → q_in32 r2 → r2 = 0 → q_in32 (v2 + 1))
    (l4 : v2 < (mem 163 5) → ∀ (r2 : Int), ∀ (m2 : qm), P2 r2 m2 → q_in32 r2 → r2 = 0 → q_At yX4_search cX4_search 3 (some .int) 5 0 0 (qK (q_rb b) Q) 61 [(2, 163), (2, s), (0, (v2 + 1))] [] (q_sh0, q_rb b, m2))
    (l5 : v2 < (mem 163 5) → ∀ (r2 : Int), ∀ (m2 : qm), P2 r2 m2 → q_in32 r2 → r2 ≠ 0 → Q v2 m2) :
    q_At yX4_search cX4_search 3 (some .int) 5 0 0 (qK (q_rb b) Q) 61 [(2, 163), (2, s), (0, v2)] [] (q_sh0, q_rb b, mem) := by
  refine q_iload_n dX4_search_61 rfl rfl ?_
  refine q_aload_n dX4_search_62 rfl rfl ?_
  refine qx_getI (ci := 4) (k := 5) (v := (mem 163 5)) dX4_search_63 rfl rfl rfl tw334 rfl qs163 rfl ?_
  refine qx_icmp_ge (tgt := 85) dX4_search_66 (by decide) (fun c1 => ?_) (fun c1 => ?_)
  · skip
    refine qx_bipush dX4_search_85 rfl rfl ?_
    exact q_iret dX4_search_87 (qK_i (l1 c1))
  · skip
    refine q_aload_n dX4_search_69 rfl rfl ?_
    refine q_iload_n dX4_search_70 rfl rfl ?_
    refine qx_invV (ci := 4) [(0, v2)] [(0, v2), (2, 163)] rfl qM_X4_isPaid dX4_search_71 tw910 rfl qs163 rfl rfl rfl rfl (l2 c1) (fun r2 m2 p2 q2 => ?_)
    refine qx_if_eq (tgt := 79) dX4_search_74 (by decide) (fun c3 => ?_) (fun c3 => ?_)
    · skip
      refine qx_iinc (L' := [(2, 163), (2, s), (0, (v2 + 1))]) dX4_search_79 rfl rfl rfl (o3 c1 r2 m2 p2 q2 c3) rfl ?_
      refine q_goto (tgt := 61) dX4_search_82 (by decide) ?_
      exact l4 c1 r2 m2 p2 q2 c3
    · skip
      refine q_iload_n dX4_search_77 rfl rfl ?_
      exact q_iret dX4_search_78 (qK_i (l5 c1 r2 m2 p2 q2 c3))
theorem dX4_stepsTo_0 : decode cX4_stepsTo 0 = .ok (.iconst 0, 1) := by decide +kernel
theorem dX4_stepsTo_1 : decode cX4_stepsTo 1 = .ok (.istore_n 2, 1) := by decide +kernel
theorem dX4_stepsTo_2 : decode cX4_stepsTo 2 = .ok (.iload_n 1, 1) := by decide +kernel
theorem dX4_stepsTo_3 : decode cX4_stepsTo 3 = .ok (.istore_n 3, 1) := by decide +kernel
theorem dX4_stepsTo_4 : decode cX4_stepsTo 4 = .ok (.iload_n 2, 1) := by decide +kernel
theorem dX4_stepsTo_5 : decode cX4_stepsTo 5 = .ok (.sipush 3000, 3) := by decide +kernel
theorem dX4_stepsTo_8 : decode cX4_stepsTo 8 = .ok (.if_icmp .ge 28, 3) := by decide +kernel
theorem dX4_stepsTo_11 : decode cX4_stepsTo 11 = .ok (.iload_n 3, 1) := by decide +kernel
theorem dX4_stepsTo_12 : decode cX4_stepsTo 12 = .ok (.ifCond .le 24, 3) := by decide +kernel
theorem dX4_stepsTo_15 : decode cX4_stepsTo 15 = .ok (.iload_n 3, 1) := by decide +kernel
theorem dX4_stepsTo_16 : decode cX4_stepsTo 16 = .ok (.aload_n 0, 1) := by decide +kernel
theorem dX4_stepsTo_17 : decode cX4_stepsTo 17 = .ok (.getfield 35, 3) := by decide +kernel
theorem dX4_stepsTo_20 : decode cX4_stepsTo 20 = .ok (.if_icmp .ge 16, 3) := by decide +kernel
theorem dX4_stepsTo_23 : decode cX4_stepsTo 23 = .ok (.iinc 2 1, 3) := by decide +kernel
theorem dX4_stepsTo_26 : decode cX4_stepsTo 26 = .ok (.aload_n 0, 1) := by decide +kernel
theorem dX4_stepsTo_27 : decode cX4_stepsTo 27 = .ok (.getfield 15, 3) := by decide +kernel
theorem dX4_stepsTo_30 : decode cX4_stepsTo 30 = .ok (.iload_n 3, 1) := by decide +kernel
theorem dX4_stepsTo_31 : decode cX4_stepsTo 31 = .ok (.iaload, 1) := by decide +kernel
theorem dX4_stepsTo_32 : decode cX4_stepsTo 32 = .ok (.istore_n 3, 1) := by decide +kernel
theorem dX4_stepsTo_33 : decode cX4_stepsTo 33 = .ok (.goto (-29), 3) := by decide +kernel
theorem dX4_stepsTo_36 : decode cX4_stepsTo 36 = .ok (.iload_n 2, 1) := by decide +kernel
theorem dX4_stepsTo_37 : decode cX4_stepsTo 37 = .ok (.ireturn, 1) := by decide +kernel
theorem bkX4_stepsTo_0 {b : Int} {mem : qm} {Q : Int → qm → Prop}
    {v : Int}
    (l1 : q_At yX4_stepsTo cX4_stepsTo 4 (some .int) 1 0 0 (qK (q_rb b) Q) 4 [(2, 163), (0, v), (0, 0), (0, v)] [] (q_sh0, q_rb b, mem)) :
    q_At yX4_stepsTo cX4_stepsTo 4 (some .int) 1 0 0 (qK (q_rb b) Q) 0 [(2, 163), (0, v), (4, 0), (4, 0)] [] (q_sh0, q_rb b, mem) := by
  refine qx_iconst dX4_stepsTo_0 rfl rfl ?_
  refine qx_istore_n (L' := [(2, 163), (0, v), (0, 0), (4, 0)]) dX4_stepsTo_1 rfl rfl rfl rfl ?_
  refine q_iload_n dX4_stepsTo_2 rfl rfl ?_
  refine qx_istore_n (L' := [(2, 163), (0, v), (0, 0), (0, v)]) dX4_stepsTo_3 rfl rfl rfl rfl ?_
  exact l1
theorem bkX4_stepsTo_4 {b : Int} {mem : qm} {Q : Int → qm → Prop}
    {v v2 v3 : Int}
    (l1 : 3000 ≤ v2 → Q v2 mem)
    (l2 : v2 < 3000 → v3 ≤ 0 → Q v2 mem)
    (l3 : v2 < 3000 → 0 < v3 → (mem 163 5) ≤ v3 → Q v2 mem)
    (o4 : v2 < 3000 → 0 < v3 → v3 < (mem 163 5) → q_in32 (v2 + 1) ∧ (0 ≤ v3 ∧ v3 < 3000))
    (l5 : v2 < 3000 → 0 < v3 → v3 < (mem 163 5) → q_At yX4_stepsTo cX4_stepsTo 4 (some .int) 1 0 0 (qK (q_rb b) Q) 4 [(2, 163), (0, v), (0, (v2 + 1)), (0, (mem 165 v3))] [] (q_sh0, q_rb b, mem)) :
    q_At yX4_stepsTo cX4_stepsTo 4 (some .int) 1 0 0 (qK (q_rb b) Q) 4 [(2, 163), (0, v), (0, v2), (0, v3)] [] (q_sh0, q_rb b, mem) := by
  refine q_iload_n dX4_stepsTo_4 rfl rfl ?_
  refine qx_sipush dX4_stepsTo_5 rfl rfl ?_
  refine qx_icmp_ge (tgt := 36) dX4_stepsTo_8 (by decide) (fun c1 => ?_) (fun c1 => ?_)
  · skip
    refine q_iload_n dX4_stepsTo_36 rfl rfl ?_
    exact q_iret dX4_stepsTo_37 (qK_i (l1 c1))
  · skip
    refine q_iload_n dX4_stepsTo_11 rfl rfl ?_
    refine qx_if_le (tgt := 36) dX4_stepsTo_12 (by decide) (fun c2 => ?_) (fun c2 => ?_)
    · skip
      refine q_iload_n dX4_stepsTo_36 rfl rfl ?_
      exact q_iret dX4_stepsTo_37 (qK_i (l2 c1 c2))
    · skip
      refine q_iload_n dX4_stepsTo_15 rfl rfl ?_
      refine q_aload_n dX4_stepsTo_16 rfl rfl ?_
      refine qx_getI (ci := 4) (k := 5) (v := (mem 163 5)) dX4_stepsTo_17 rfl rfl rfl tw334 rfl qs163 rfl ?_
      refine qx_icmp_ge (tgt := 36) dX4_stepsTo_20 (by decide) (fun c3 => ?_) (fun c3 => ?_)
      · skip
        refine q_iload_n dX4_stepsTo_36 rfl rfl ?_
        exact q_iret dX4_stepsTo_37 (qK_i (l3 c1 c2 c3))
      · skip
        refine qx_iinc (L' := [(2, 163), (0, v), (0, (v2 + 1)), (0, v3)]) dX4_stepsTo_23 rfl rfl rfl (o4 c1 c2 c3).1 rfl ?_
        refine q_aload_n dX4_stepsTo_26 rfl rfl ?_
        refine q_getR (ci := 4) (k := 2) dX4_stepsTo_27 rfl (by decide) rfl tw331 (by decide) qs163 qw163_2 (by decide) ?_
        refine q_iload_n dX4_stepsTo_30 rfl rfl ?_
        refine qx_iald (v := (mem 165 v3)) dX4_stepsTo_31 qs165 (o4 c1 c2 c3).2 rfl ?_
        refine qx_istore_n (L' := [(2, 163), (0, v), (0, (v2 + 1)), (0, (mem 165 v3))]) dX4_stepsTo_32 rfl rfl rfl rfl ?_
        refine q_goto (tgt := 4) dX4_stepsTo_33 (by decide) ?_
        exact l5 c1 c2 c3
theorem dX4_stepOf_0 : decode cX4_stepOf 0 = .ok (.iload_n 1, 1) := by decide +kernel
theorem dX4_stepOf_1 : decode cX4_stepOf 1 = .ok (.istore_n 3, 1) := by decide +kernel
theorem dX4_stepOf_2 : decode cX4_stepOf 2 = .ok (.iconst 0, 1) := by decide +kernel
theorem dX4_stepOf_3 : decode cX4_stepOf 3 = .ok (.istore 4, 2) := by decide +kernel
theorem dX4_stepOf_5 : decode cX4_stepOf 5 = .ok (.iload 4, 2) := by decide +kernel
theorem dX4_stepOf_7 : decode cX4_stepOf 7 = .ok (.iload_n 2, 1) := by decide +kernel
theorem dX4_stepOf_8 : decode cX4_stepOf 8 = .ok (.if_icmp .ge 28, 3) := by decide +kernel
theorem dX4_stepOf_11 : decode cX4_stepOf 11 = .ok (.iload_n 3, 1) := by decide +kernel
theorem dX4_stepOf_12 : decode cX4_stepOf 12 = .ok (.ifCond .le 24, 3) := by decide +kernel
theorem dX4_stepOf_15 : decode cX4_stepOf 15 = .ok (.iload_n 3, 1) := by decide +kernel
theorem dX4_stepOf_16 : decode cX4_stepOf 16 = .ok (.aload_n 0, 1) := by decide +kernel
theorem dX4_stepOf_17 : decode cX4_stepOf 17 = .ok (.getfield 35, 3) := by decide +kernel
theorem dX4_stepOf_20 : decode cX4_stepOf 20 = .ok (.if_icmp .ge 16, 3) := by decide +kernel
theorem dX4_stepOf_23 : decode cX4_stepOf 23 = .ok (.aload_n 0, 1) := by decide +kernel
theorem dX4_stepOf_24 : decode cX4_stepOf 24 = .ok (.getfield 15, 3) := by decide +kernel
theorem dX4_stepOf_27 : decode cX4_stepOf 27 = .ok (.iload_n 3, 1) := by decide +kernel
theorem dX4_stepOf_28 : decode cX4_stepOf 28 = .ok (.iaload, 1) := by decide +kernel
theorem dX4_stepOf_29 : decode cX4_stepOf 29 = .ok (.istore_n 3, 1) := by decide +kernel
theorem dX4_stepOf_30 : decode cX4_stepOf 30 = .ok (.iinc 4 1, 3) := by decide +kernel
theorem dX4_stepOf_33 : decode cX4_stepOf 33 = .ok (.goto (-28), 3) := by decide +kernel
theorem dX4_stepOf_36 : decode cX4_stepOf 36 = .ok (.iload_n 3, 1) := by decide +kernel
theorem dX4_stepOf_37 : decode cX4_stepOf 37 = .ok (.ifCond .le 20, 3) := by decide +kernel
theorem dX4_stepOf_40 : decode cX4_stepOf 40 = .ok (.iload_n 3, 1) := by decide +kernel
theorem dX4_stepOf_41 : decode cX4_stepOf 41 = .ok (.aload_n 0, 1) := by decide +kernel
theorem dX4_stepOf_42 : decode cX4_stepOf 42 = .ok (.getfield 35, 3) := by decide +kernel
theorem dX4_stepOf_45 : decode cX4_stepOf 45 = .ok (.if_icmp .ge 12, 3) := by decide +kernel
theorem dX4_stepOf_48 : decode cX4_stepOf 48 = .ok (.aload_n 0, 1) := by decide +kernel
theorem dX4_stepOf_49 : decode cX4_stepOf 49 = .ok (.getfield 19, 3) := by decide +kernel
theorem dX4_stepOf_52 : decode cX4_stepOf 52 = .ok (.iload_n 3, 1) := by decide +kernel
theorem dX4_stepOf_53 : decode cX4_stepOf 53 = .ok (.iaload, 1) := by decide +kernel
theorem dX4_stepOf_54 : decode cX4_stepOf 54 = .ok (.goto 4, 3) := by decide +kernel
theorem dX4_stepOf_57 : decode cX4_stepOf 57 = .ok (.iconst (-1), 1) := by decide +kernel
theorem dX4_stepOf_58 : decode cX4_stepOf 58 = .ok (.ireturn, 1) := by decide +kernel
theorem bkX4_stepOf_0 {b : Int} {mem : qm} {Q : Int → qm → Prop}
    {v w : Int}
    (l1 : q_At yX4_stepOf cX4_stepOf 5 (some .int) 1 0 0 (qK (q_rb b) Q) 5 [(2, 163), (0, v), (0, w), (0, v), (0, 0)] [] (q_sh0, q_rb b, mem)) :
    q_At yX4_stepOf cX4_stepOf 5 (some .int) 1 0 0 (qK (q_rb b) Q) 0 [(2, 163), (0, v), (0, w), (4, 0), (4, 0)] [] (q_sh0, q_rb b, mem) := by
  refine q_iload_n dX4_stepOf_0 rfl rfl ?_
  refine qx_istore_n (L' := [(2, 163), (0, v), (0, w), (0, v), (4, 0)]) dX4_stepOf_1 rfl rfl rfl rfl ?_
  refine qx_iconst dX4_stepOf_2 rfl rfl ?_
  refine qx_istore (L' := [(2, 163), (0, v), (0, w), (0, v), (0, 0)]) dX4_stepOf_3 rfl rfl rfl ?_
  exact l1
theorem bkX4_stepOf_5 {b : Int} {mem : qm} {Q : Int → qm → Prop}
    {v w v3 v4 : Int}
    (l1 : w ≤ v4 → v3 ≤ 0 → Q (-1) mem)
    (l2 : w ≤ v4 → 0 < v3 → (mem 163 5) ≤ v3 → Q (-1) mem)
    (o3 : w ≤ v4 → 0 < v3 → v3 < (mem 163 5) → (0 ≤ v3 ∧ v3 < 3000))
    (l4 : w ≤ v4 → 0 < v3 → v3 < (mem 163 5) → Q (mem 166 v3) mem)
    (l5 : v4 < w → v3 ≤ 0 → v3 ≤ 0 → Q (-1) mem)
    (l6 : v4 < w → v3 ≤ 0 → 0 < v3 → (mem 163 5) ≤ v3 → Q (-1) mem)
    (o7 : v4 < w → v3 ≤ 0 → 0 < v3 → v3 < (mem 163 5) → (0 ≤ v3 ∧ v3 < 3000))
    (l8 : v4 < w → v3 ≤ 0 → 0 < v3 → v3 < (mem 163 5) → Q (mem 166 v3) mem)
    (l9 : v4 < w → 0 < v3 → (mem 163 5) ≤ v3 → v3 ≤ 0 → Q (-1) mem)
    (l10 : v4 < w → 0 < v3 → (mem 163 5) ≤ v3 → 0 < v3 → (mem 163 5) ≤ v3 → Q (-1) mem)
    (o11 : v4 < w → 0 < v3 → (mem 163 5) ≤ v3 → 0 < v3 → v3 < (mem 163 5) → (0 ≤ v3 ∧ v3 < 3000))
    (l12 : v4 < w → 0 < v3 → (mem 163 5) ≤ v3 → 0 < v3 → v3 < (mem 163 5) → Q (mem 166 v3) mem)
    (o13 : v4 < w → 0 < v3 → v3 < (mem 163 5) → (0 ≤ v3 ∧ v3 < 3000) ∧ q_in32 (v4 + 1))
    (l14 : v4 < w → 0 < v3 → v3 < (mem 163 5) → q_At yX4_stepOf cX4_stepOf 5 (some .int) 1 0 0 (qK (q_rb b) Q) 5 [(2, 163), (0, v), (0, w), (0, (mem 165 v3)), (0, (v4 + 1))] [] (q_sh0, q_rb b, mem)) :
    q_At yX4_stepOf cX4_stepOf 5 (some .int) 1 0 0 (qK (q_rb b) Q) 5 [(2, 163), (0, v), (0, w), (0, v3), (0, v4)] [] (q_sh0, q_rb b, mem) := by
  refine q_iload dX4_stepOf_5 rfl ?_
  refine q_iload_n dX4_stepOf_7 rfl rfl ?_
  refine qx_icmp_ge (tgt := 36) dX4_stepOf_8 (by decide) (fun c1 => ?_) (fun c1 => ?_)
  · skip
    refine q_iload_n dX4_stepOf_36 rfl rfl ?_
    refine qx_if_le (tgt := 57) dX4_stepOf_37 (by decide) (fun c2 => ?_) (fun c2 => ?_)
    · skip
      refine qx_iconst dX4_stepOf_57 rfl rfl ?_
      exact q_iret dX4_stepOf_58 (qK_i (l1 c1 c2))
    · skip
      refine q_iload_n dX4_stepOf_40 rfl rfl ?_
      refine q_aload_n dX4_stepOf_41 rfl rfl ?_
      refine qx_getI (ci := 4) (k := 5) (v := (mem 163 5)) dX4_stepOf_42 rfl rfl rfl tw334 rfl qs163 rfl ?_
      refine qx_icmp_ge (tgt := 57) dX4_stepOf_45 (by decide) (fun c3 => ?_) (fun c3 => ?_)
      · skip
        refine qx_iconst dX4_stepOf_57 rfl rfl ?_
        exact q_iret dX4_stepOf_58 (qK_i (l2 c1 c2 c3))
      · skip
        refine q_aload_n dX4_stepOf_48 rfl rfl ?_
        refine q_getR (ci := 4) (k := 3) dX4_stepOf_49 rfl (by decide) rfl tw332 (by decide) qs163 qw163_3 (by decide) ?_
        refine q_iload_n dX4_stepOf_52 rfl rfl ?_
        refine qx_iald (v := (mem 166 v3)) dX4_stepOf_53 qs166 (o3 c1 c2 c3) rfl ?_
        refine q_goto (tgt := 58) dX4_stepOf_54 (by decide) ?_
        exact q_iret dX4_stepOf_58 (qK_i (l4 c1 c2 c3))
  · skip
    refine q_iload_n dX4_stepOf_11 rfl rfl ?_
    refine qx_if_le (tgt := 36) dX4_stepOf_12 (by decide) (fun c4 => ?_) (fun c4 => ?_)
    · skip
      refine q_iload_n dX4_stepOf_36 rfl rfl ?_
      refine qx_if_le (tgt := 57) dX4_stepOf_37 (by decide) (fun c5 => ?_) (fun c5 => ?_)
      · skip
        refine qx_iconst dX4_stepOf_57 rfl rfl ?_
        exact q_iret dX4_stepOf_58 (qK_i (l5 c1 c4 c5))
      · skip
        refine q_iload_n dX4_stepOf_40 rfl rfl ?_
        refine q_aload_n dX4_stepOf_41 rfl rfl ?_
        refine qx_getI (ci := 4) (k := 5) (v := (mem 163 5)) dX4_stepOf_42 rfl rfl rfl tw334 rfl qs163 rfl ?_
        refine qx_icmp_ge (tgt := 57) dX4_stepOf_45 (by decide) (fun c6 => ?_) (fun c6 => ?_)
        · skip
          refine qx_iconst dX4_stepOf_57 rfl rfl ?_
          exact q_iret dX4_stepOf_58 (qK_i (l6 c1 c4 c5 c6))
        · skip
          refine q_aload_n dX4_stepOf_48 rfl rfl ?_
          refine q_getR (ci := 4) (k := 3) dX4_stepOf_49 rfl (by decide) rfl tw332 (by decide) qs163 qw163_3 (by decide) ?_
          refine q_iload_n dX4_stepOf_52 rfl rfl ?_
          refine qx_iald (v := (mem 166 v3)) dX4_stepOf_53 qs166 (o7 c1 c4 c5 c6) rfl ?_
          refine q_goto (tgt := 58) dX4_stepOf_54 (by decide) ?_
          exact q_iret dX4_stepOf_58 (qK_i (l8 c1 c4 c5 c6))
    · skip
      refine q_iload_n dX4_stepOf_15 rfl rfl ?_
      refine q_aload_n dX4_stepOf_16 rfl rfl ?_
      refine qx_getI (ci := 4) (k := 5) (v := (mem 163 5)) dX4_stepOf_17 rfl rfl rfl tw334 rfl qs163 rfl ?_
      refine qx_icmp_ge (tgt := 36) dX4_stepOf_20 (by decide) (fun c7 => ?_) (fun c7 => ?_)
      · skip
        refine q_iload_n dX4_stepOf_36 rfl rfl ?_
        refine qx_if_le (tgt := 57) dX4_stepOf_37 (by decide) (fun c8 => ?_) (fun c8 => ?_)
        · skip
          refine qx_iconst dX4_stepOf_57 rfl rfl ?_
          exact q_iret dX4_stepOf_58 (qK_i (l9 c1 c4 c7 c8))
        · skip
          refine q_iload_n dX4_stepOf_40 rfl rfl ?_
          refine q_aload_n dX4_stepOf_41 rfl rfl ?_
          refine qx_getI (ci := 4) (k := 5) (v := (mem 163 5)) dX4_stepOf_42 rfl rfl rfl tw334 rfl qs163 rfl ?_
          refine qx_icmp_ge (tgt := 57) dX4_stepOf_45 (by decide) (fun c9 => ?_) (fun c9 => ?_)
          · skip
            refine qx_iconst dX4_stepOf_57 rfl rfl ?_
            exact q_iret dX4_stepOf_58 (qK_i (l10 c1 c4 c7 c8 c9))
          · skip
            refine q_aload_n dX4_stepOf_48 rfl rfl ?_
            refine q_getR (ci := 4) (k := 3) dX4_stepOf_49 rfl (by decide) rfl tw332 (by decide) qs163 qw163_3 (by decide) ?_
            refine q_iload_n dX4_stepOf_52 rfl rfl ?_
            refine qx_iald (v := (mem 166 v3)) dX4_stepOf_53 qs166 (o11 c1 c4 c7 c8 c9) rfl ?_
            refine q_goto (tgt := 58) dX4_stepOf_54 (by decide) ?_
            exact q_iret dX4_stepOf_58 (qK_i (l12 c1 c4 c7 c8 c9))
      · skip
        refine q_aload_n dX4_stepOf_23 rfl rfl ?_
        refine q_getR (ci := 4) (k := 2) dX4_stepOf_24 rfl (by decide) rfl tw331 (by decide) qs163 qw163_2 (by decide) ?_
        refine q_iload_n dX4_stepOf_27 rfl rfl ?_
        refine qx_iald (v := (mem 165 v3)) dX4_stepOf_28 qs165 (o13 c1 c4 c7).1 rfl ?_
        refine qx_istore_n (L' := [(2, 163), (0, v), (0, w), (0, (mem 165 v3)), (0, v4)]) dX4_stepOf_29 rfl rfl rfl rfl ?_
        refine qx_iinc (L' := [(2, 163), (0, v), (0, w), (0, (mem 165 v3)), (0, (v4 + 1))]) dX4_stepOf_30 rfl rfl rfl (o13 c1 c4 c7).2 rfl ?_
        refine q_goto (tgt := 5) dX4_stepOf_33 (by decide) ?_
        exact l14 c1 c4 c7
theorem dX11_payoff_0 : decode cX11_payoff 0 = .ok (.aload_n 0, 1) := by decide +kernel
theorem dX11_payoff_1 : decode cX11_payoff 1 = .ok (.getfield 97, 3) := by decide +kernel
theorem dX11_payoff_4 : decode cX11_payoff 4 = .ok (.aload_n 0, 1) := by decide +kernel
theorem dX11_payoff_5 : decode cX11_payoff 5 = .ok (.getfield 19, 3) := by decide +kernel
theorem dX11_payoff_8 : decode cX11_payoff 8 = .ok (.invokevirtual 329, 3) := by decide +kernel
theorem dX11_payoff_11 : decode cX11_payoff 11 = .ok (.istore_n 1, 1) := by decide +kernel
theorem dX11_payoff_12 : decode cX11_payoff 12 = .ok (.iload_n 1, 1) := by decide +kernel
theorem dX11_payoff_13 : decode cX11_payoff 13 = .ok (.ifCond .ge 5, 3) := by decide +kernel
theorem dX11_payoff_16 : decode cX11_payoff 16 = .ok (.iload_n 1, 1) := by decide +kernel
theorem dX11_payoff_17 : decode cX11_payoff 17 = .ok (.ireturn, 1) := by decide +kernel
theorem dX11_payoff_18 : decode cX11_payoff 18 = .ok (.aload_n 0, 1) := by decide +kernel
theorem dX11_payoff_19 : decode cX11_payoff 19 = .ok (.getfield 97, 3) := by decide +kernel
theorem dX11_payoff_22 : decode cX11_payoff 22 = .ok (.iload_n 1, 1) := by decide +kernel
theorem dX11_payoff_23 : decode cX11_payoff 23 = .ok (.invokevirtual 333, 3) := by decide +kernel
theorem dX11_payoff_26 : decode cX11_payoff 26 = .ok (.istore_n 2, 1) := by decide +kernel
theorem dX11_payoff_27 : decode cX11_payoff 27 = .ok (.aload_n 0, 1) := by decide +kernel
theorem dX11_payoff_28 : decode cX11_payoff 28 = .ok (.invokevirtual 223, 3) := by decide +kernel
theorem dX11_payoff_31 : decode cX11_payoff 31 = .ok (.iconst 0, 1) := by decide +kernel
theorem dX11_payoff_32 : decode cX11_payoff 32 = .ok (.istore_n 3, 1) := by decide +kernel
theorem dX11_payoff_33 : decode cX11_payoff 33 = .ok (.iload_n 3, 1) := by decide +kernel
theorem dX11_payoff_34 : decode cX11_payoff 34 = .ok (.iload_n 2, 1) := by decide +kernel
theorem dX11_payoff_35 : decode cX11_payoff 35 = .ok (.if_icmp .ge 32, 3) := by decide +kernel
theorem dX11_payoff_38 : decode cX11_payoff 38 = .ok (.iload_n 3, 1) := by decide +kernel
theorem dX11_payoff_39 : decode cX11_payoff 39 = .ok (.bipush 10, 2) := by decide +kernel
theorem dX11_payoff_41 : decode cX11_payoff 41 = .ok (.if_icmp .ge 26, 3) := by decide +kernel
theorem dX11_payoff_44 : decode cX11_payoff 44 = .ok (.aload_n 0, 1) := by decide +kernel
theorem dX11_payoff_45 : decode cX11_payoff 45 = .ok (.aload_n 0, 1) := by decide +kernel
theorem dX11_payoff_46 : decode cX11_payoff 46 = .ok (.getfield 97, 3) := by decide +kernel
theorem dX11_payoff_49 : decode cX11_payoff 49 = .ok (.iload_n 1, 1) := by decide +kernel
theorem dX11_payoff_50 : decode cX11_payoff 50 = .ok (.iload_n 2, 1) := by decide +kernel
theorem dX11_payoff_51 : decode cX11_payoff 51 = .ok (.iconst 1, 1) := by decide +kernel
theorem dX11_payoff_52 : decode cX11_payoff 52 = .ok (.isub, 1) := by decide +kernel
theorem dX11_payoff_53 : decode cX11_payoff 53 = .ok (.iload_n 3, 1) := by decide +kernel
theorem dX11_payoff_54 : decode cX11_payoff 54 = .ok (.isub, 1) := by decide +kernel
theorem dX11_payoff_55 : decode cX11_payoff 55 = .ok (.invokevirtual 336, 3) := by decide +kernel
theorem dX11_payoff_58 : decode cX11_payoff 58 = .ok (.invokevirtual 229, 3) := by decide +kernel
theorem dX11_payoff_61 : decode cX11_payoff 61 = .ok (.iinc 3 1, 3) := by decide +kernel
theorem dX11_payoff_64 : decode cX11_payoff 64 = .ok (.goto (-31), 3) := by decide +kernel
theorem dX11_payoff_67 : decode cX11_payoff 67 = .ok (.iload_n 2, 1) := by decide +kernel
theorem dX11_payoff_68 : decode cX11_payoff 68 = .ok (.ireturn, 1) := by decide +kernel
theorem bkX11_payoff_0 {b : Int} {mem : qm} {Q : Int → qm → Prop}
    {P1 : Int → qm → Prop}
    (l1 : q_Ev yX4_search cX4_search 3 (some .int) 5 0 0 [(2, 163), (2, 5)] (q_sh0, q_rb b, mem) (qK (q_rb b) (P1)))
    {P3 : Int → qm → Int → qm → Prop}
    (l2 : ∀ (r1 : Int), ∀ (m1 : qm), P1 r1 m1 → q_in32 r1 → 0 ≤ r1 → q_Ev yX4_stepsTo cX4_stepsTo 4 (some .int) 1 0 0 [(2, 163), (0, r1)] (q_sh0, q_rb b, m1) (qK (q_rb b) (P3 r1 m1)))
    (l3 : ∀ (r1 : Int), ∀ (m1 : qm), P1 r1 m1 → q_in32 r1 → 0 ≤ r1 → ∀ (r3 : Int), ∀ (m3 : qm), P3 r1 m1 r3 m3 → q_in32 r3 → q_At yX11_payoff cX11_payoff 4 (some .int) 6 0 0 (qK (q_rb b) Q) 33 [(2, 0), (0, r1), (0, r3), (0, 0)] [] (q_sh0, q_rb b, (q_up m3 0 16 0)))
    (l4 : ∀ (r1 : Int), ∀ (m1 : qm), P1 r1 m1 → q_in32 r1 → r1 < 0 → Q r1 m1) :
    q_At yX11_payoff cX11_payoff 4 (some .int) 6 0 0 (qK (q_rb b) Q) 0 [(2, 0), (4, 0), (4, 0), (4, 0)] [] (q_sh0, q_rb b, mem) := by
  refine q_aload_n dX11_payoff_0 rfl rfl ?_
  refine q_getR (ci := 11) (k := 13) dX11_payoff_1 rfl (by decide) rfl tw362 (by decide) qs0 qw0_13 (by decide) ?_
  refine q_aload_n dX11_payoff_4 rfl rfl ?_
  refine q_getR (ci := 11) (k := 1) dX11_payoff_5 rfl (by decide) rfl tw350 (by decide) qs0 qw0_1 (by decide) ?_
  refine qx_invV (ci := 4) [(2, 5)] [(2, 5), (2, 163)] rfl qM_X4_search dX11_payoff_8 tw865 rfl qs163 rfl rfl rfl rfl (l1) (fun r1 m1 p1 q1 => ?_)
  refine qx_istore_n (L' := [(2, 0), (0, r1), (4, 0), (4, 0)]) dX11_payoff_11 rfl rfl rfl rfl ?_
  refine q_iload_n dX11_payoff_12 rfl rfl ?_
  refine qx_if_ge (tgt := 18) dX11_payoff_13 (by decide) (fun c2 => ?_) (fun c2 => ?_)
  · skip
    refine q_aload_n dX11_payoff_18 rfl rfl ?_
    refine q_getR (ci := 11) (k := 13) dX11_payoff_19 rfl (by decide) rfl tw362 (by decide) qs0 qw0_13 (by decide) ?_
    refine q_iload_n dX11_payoff_22 rfl rfl ?_
    refine qx_invV (ci := 4) [(0, r1)] [(0, r1), (2, 163)] rfl qM_X4_stepsTo dX11_payoff_23 tw914 rfl qs163 rfl rfl rfl rfl (l2 r1 m1 p1 q1 c2) (fun r3 m3 p3 q3 => ?_)
    refine qx_istore_n (L' := [(2, 0), (0, r1), (0, r3), (4, 0)]) dX11_payoff_26 rfl rfl rfl rfl ?_
    refine q_aload_n dX11_payoff_27 rfl rfl ?_
    refine qx_invV (ci := 11) [] [(2, 0)] rfl qM_X11_clearRow dX11_payoff_28 tw691 rfl qs0 rfl rfl rfl rfl (spX11_clearRow) (fun r4 m4 p4 q4 => ?_)
    obtain rfl := p4
    refine qx_iconst dX11_payoff_31 rfl rfl ?_
    refine qx_istore_n (L' := [(2, 0), (0, r1), (0, r3), (0, 0)]) dX11_payoff_32 rfl rfl rfl rfl ?_
    exact l3 r1 m1 p1 q1 c2 r3 m3 p3 q3
  · skip
    refine q_iload_n dX11_payoff_16 rfl rfl ?_
    exact q_iret dX11_payoff_17 (qK_i (l4 r1 m1 p1 q1 c2))
theorem bkX11_payoff_33 {b : Int} {mem : qm} {Q : Int → qm → Prop}
    {v1 v2 v3 : Int}
    (l1 : v2 ≤ v3 → Q v2 mem)
    (l2 : v3 < v2 → 10 ≤ v3 → Q v2 mem)
    (o3 : v3 < v2 → v3 < 10 → q_in32 (v2 - 1) ∧ q_in32 ((v2 - 1) - v3))
    {P3 : Int → qm → Prop}
    (l4 : v3 < v2 → v3 < 10 → q_Ev yX4_stepOf cX4_stepOf 5 (some .int) 1 0 0 [(2, 163), (0, v1), (0, ((v2 - 1) - v3))] (q_sh0, q_rb b, mem) (qK (q_rb b) (P3)))
    (o5 : v3 < v2 → v3 < 10 → ∀ (r3 : Int), ∀ (m3 : qm), P3 r3 m3 → q_in32 r3 → (0 ≤ (m3 0 16) ∧ (m3 0 16) < 10) ∧ q_in32 (v3 + 1))
    (l6 : v3 < v2 → v3 < 10 → ∀ (r3 : Int), ∀ (m3 : qm), P3 r3 m3 → q_in32 r3 → q_At yX11_payoff cX11_payoff 4 (some .int) 6 0 0 (qK (q_rb b) Q) 33 [(2, 0), (0, v1), (0, v2), (0, (v3 + 1))] [] (q_sh0, q_rb b, (q_up (q_up m3 169 (m3 0 16) r3) 0 16 ((m3 0 16) + 1)))) :
    q_At yX11_payoff cX11_payoff 4 (some .int) 6 0 0 (qK (q_rb b) Q) 33 [(2, 0), (0, v1), (0, v2), (0, v3)] [] (q_sh0, q_rb b, mem) := by
  refine q_iload_n dX11_payoff_33 rfl rfl ?_
  refine q_iload_n dX11_payoff_34 rfl rfl ?_
  refine qx_icmp_ge (tgt := 67) dX11_payoff_35 (by decide) (fun c1 => ?_) (fun c1 => ?_)
  · skip
    refine q_iload_n dX11_payoff_67 rfl rfl ?_
    exact q_iret dX11_payoff_68 (qK_i (l1 c1))
  · skip
    refine q_iload_n dX11_payoff_38 rfl rfl ?_
    refine qx_bipush dX11_payoff_39 rfl rfl ?_
    refine qx_icmp_ge (tgt := 67) dX11_payoff_41 (by decide) (fun c2 => ?_) (fun c2 => ?_)
    · skip
      refine q_iload_n dX11_payoff_67 rfl rfl ?_
      exact q_iret dX11_payoff_68 (qK_i (l2 c1 c2))
    · skip
      refine q_aload_n dX11_payoff_44 rfl rfl ?_
      refine q_aload_n dX11_payoff_45 rfl rfl ?_
      refine q_getR (ci := 11) (k := 13) dX11_payoff_46 rfl (by decide) rfl tw362 (by decide) qs0 qw0_13 (by decide) ?_
      refine q_iload_n dX11_payoff_49 rfl rfl ?_
      refine q_iload_n dX11_payoff_50 rfl rfl ?_
      refine qx_iconst dX11_payoff_51 rfl rfl ?_
      refine qx_isub dX11_payoff_52 (o3 c1 c2).1 ?_
      refine q_iload_n dX11_payoff_53 rfl rfl ?_
      refine qx_isub dX11_payoff_54 (o3 c1 c2).2 ?_
      refine qx_invV (ci := 4) [(0, v1), (0, ((v2 - 1) - v3))] [(0, ((v2 - 1) - v3)), (0, v1), (2, 163), (2, 0)] rfl qM_X4_stepOf dX11_payoff_55 tw918 rfl qs163 rfl rfl rfl rfl (l4 c1 c2) (fun r3 m3 p3 q3 => ?_)
      refine qx_invV (ci := 11) [(0, r3)] [(0, r3), (2, 0)] rfl qM_X11_tell dX11_payoff_58 tw699 rfl qs0 rfl rfl rfl rfl (spX11_tell (o5 c1 c2 r3 m3 p3 q3).1) (fun r4 m4 p4 q4 => ?_)
      obtain rfl := p4
      refine qx_iinc (L' := [(2, 0), (0, v1), (0, v2), (0, (v3 + 1))]) dX11_payoff_61 rfl rfl rfl (o5 c1 c2 r3 m3 p3 q3).2 rfl ?_
      refine q_goto (tgt := 33) dX11_payoff_64 (by decide) ?_
      exact l6 c1 c2 r3 m3 p3 q3
