theorem dX12_load_0 : decode cX12_load 0 = .ok (.iconst 0, 1) := by decide +kernel
theorem dX12_load_1 : decode cX12_load 1 = .ok (.istore_n 2, 1) := by decide +kernel
theorem dX12_load_2 : decode cX12_load 2 = .ok (.iload_n 2, 1) := by decide +kernel
theorem dX12_load_3 : decode cX12_load 3 = .ok (.aload_n 0, 1) := by decide +kernel
theorem dX12_load_4 : decode cX12_load 4 = .ok (.getfield 134, 3) := by decide +kernel
theorem dX12_load_7 : decode cX12_load 7 = .ok (.if_icmp .ge 26, 3) := by decide +kernel
theorem dX12_load_10 : decode cX12_load 10 = .ok (.aload_n 0, 1) := by decide +kernel
theorem dX12_load_11 : decode cX12_load 11 = .ok (.getfield 72, 3) := by decide +kernel
theorem dX12_load_14 : decode cX12_load 14 = .ok (.iload_n 2, 1) := by decide +kernel
theorem dX12_load_15 : decode cX12_load 15 = .ok (.aload_n 0, 1) := by decide +kernel
theorem dX12_load_16 : decode cX12_load 16 = .ok (.getfield 85, 3) := by decide +kernel
theorem dX12_load_19 : decode cX12_load 19 = .ok (.bipush 45, 2) := by decide +kernel
theorem dX12_load_21 : decode cX12_load 21 = .ok (.iload_n 1, 1) := by decide +kernel
theorem dX12_load_22 : decode cX12_load 22 = .ok (.imul, 1) := by decide +kernel
theorem dX12_load_23 : decode cX12_load 23 = .ok (.iload_n 2, 1) := by decide +kernel
theorem dX12_load_24 : decode cX12_load 24 = .ok (.iadd, 1) := by decide +kernel
theorem dX12_load_25 : decode cX12_load 25 = .ok (.iaload, 1) := by decide +kernel
theorem dX12_load_26 : decode cX12_load 26 = .ok (.iastore, 1) := by decide +kernel
theorem dX12_load_27 : decode cX12_load 27 = .ok (.iinc 2 1, 3) := by decide +kernel
theorem dX12_load_30 : decode cX12_load 30 = .ok (.goto (-28), 3) := by decide +kernel
theorem dX12_load_33 : decode cX12_load 33 = .ok (.iconst 0, 1) := by decide +kernel
theorem dX12_load_34 : decode cX12_load 34 = .ok (.istore_n 2, 1) := by decide +kernel
theorem dX12_load_35 : decode cX12_load 35 = .ok (.iload_n 2, 1) := by decide +kernel
theorem dX12_load_36 : decode cX12_load 36 = .ok (.bipush 36, 2) := by decide +kernel
theorem dX12_load_38 : decode cX12_load 38 = .ok (.if_icmp .ge 29, 3) := by decide +kernel
theorem dX12_load_41 : decode cX12_load 41 = .ok (.aload_n 0, 1) := by decide +kernel
theorem dX12_load_42 : decode cX12_load 42 = .ok (.getfield 100, 3) := by decide +kernel
theorem dX12_load_45 : decode cX12_load 45 = .ok (.iload_n 2, 1) := by decide +kernel
theorem dX12_load_46 : decode cX12_load 46 = .ok (.aload_n 0, 1) := by decide +kernel
theorem dX12_load_47 : decode cX12_load 47 = .ok (.getfield 85, 3) := by decide +kernel
theorem dX12_load_50 : decode cX12_load 50 = .ok (.bipush 45, 2) := by decide +kernel
theorem dX12_load_52 : decode cX12_load 52 = .ok (.iload_n 1, 1) := by decide +kernel
theorem dX12_load_53 : decode cX12_load 53 = .ok (.imul, 1) := by decide +kernel
theorem dX12_load_54 : decode cX12_load 54 = .ok (.bipush 9, 2) := by decide +kernel
theorem dX12_load_56 : decode cX12_load 56 = .ok (.iadd, 1) := by decide +kernel
theorem dX12_load_57 : decode cX12_load 57 = .ok (.iload_n 2, 1) := by decide +kernel
theorem dX12_load_58 : decode cX12_load 58 = .ok (.iadd, 1) := by decide +kernel
theorem dX12_load_59 : decode cX12_load 59 = .ok (.iaload, 1) := by decide +kernel
theorem dX12_load_60 : decode cX12_load 60 = .ok (.iastore, 1) := by decide +kernel
theorem dX12_load_61 : decode cX12_load 61 = .ok (.iinc 2 1, 3) := by decide +kernel
theorem dX12_load_64 : decode cX12_load 64 = .ok (.goto (-29), 3) := by decide +kernel
theorem dX12_load_67 : decode cX12_load 67 = .ok (.return_, 1) := by decide +kernel
theorem bkX12_load_0 {b : Int} {mem : qm} {Q : Int → qm → Prop}
    {v : Int}
    (l1 : q_At yX12_load cX12_load 3 none 1 0 0 (qK (q_rb b) Q) 2 [(2, 188), (0, v), (0, 0)] [] (q_sh0, q_rb b, mem)) :
    q_At yX12_load cX12_load 3 none 1 0 0 (qK (q_rb b) Q) 0 [(2, 188), (0, v), (4, 0)] [] (q_sh0, q_rb b, mem) := by
  refine qx_iconst dX12_load_0 rfl rfl ?_
  refine qx_istore_n (L' := [(2, 188), (0, v), (0, 0)]) dX12_load_1 rfl rfl rfl rfl ?_
  exact l1
theorem bkX12_load_2 {b : Int} {mem : qm} {Q : Int → qm → Prop}
    {v v2 : Int}
    (l1 : (mem 188 0) ≤ v2 → q_At yX12_load cX12_load 3 none 1 0 0 (qK (q_rb b) Q) 35 [(2, 188), (0, v), (0, 0)] [] (q_sh0, q_rb b, mem))
    (o2 : v2 < (mem 188 0) → q_in32 (45 * v) ∧ q_in32 ((45 * v) + v2) ∧ (0 ≤ ((45 * v) + v2) ∧ ((45 * v) + v2) < 135000) ∧ (0 ≤ v2 ∧ v2 < 9) ∧ q_in32 (v2 + 1))
    (l3 : v2 < (mem 188 0) → q_At yX12_load cX12_load 3 none 1 0 0 (qK (q_rb b) Q) 2 [(2, 188), (0, v), (0, (v2 + 1))] [] (q_sh0, q_rb b, (q_up mem 207 v2 (mem 211 ((45 * v) + v2))))) :
    q_At yX12_load cX12_load 3 none 1 0 0 (qK (q_rb b) Q) 2 [(2, 188), (0, v), (0, v2)] [] (q_sh0, q_rb b, mem) := by
  refine q_iload_n dX12_load_2 rfl rfl ?_
  refine q_aload_n dX12_load_3 rfl rfl ?_
  refine qx_getI (ci := 12) (k := 0) (v := (mem 188 0)) dX12_load_4 rfl rfl rfl tw1183 rfl qs188 rfl ?_
  refine qx_icmp_ge (tgt := 33) dX12_load_7 (by decide) (fun c1 => ?_) (fun c1 => ?_)
  · skip
    refine qx_iconst dX12_load_33 rfl rfl ?_
    refine qx_istore_n (L' := [(2, 188), (0, v), (0, 0)]) dX12_load_34 rfl rfl rfl rfl ?_
    exact l1 c1
  · skip
    refine q_aload_n dX12_load_10 rfl rfl ?_
    refine q_getR (ci := 12) (k := 33) dX12_load_11 rfl (by decide) rfl tw1216 (by decide) qs188 qw188_33 (by decide) ?_
    refine q_iload_n dX12_load_14 rfl rfl ?_
    refine q_aload_n dX12_load_15 rfl rfl ?_
    refine q_getR (ci := 12) (k := 38) dX12_load_16 rfl (by decide) rfl tw1221 (by decide) qs188 qw188_38 (by decide) ?_
    refine qx_bipush dX12_load_19 rfl rfl ?_
    refine q_iload_n dX12_load_21 rfl rfl ?_
    refine qx_imul dX12_load_22 (o2 c1).1 ?_
    refine q_iload_n dX12_load_23 rfl rfl ?_
    refine qx_iadd dX12_load_24 (o2 c1).2.1 ?_
    refine qx_iald (v := (mem 211 ((45 * v) + v2))) dX12_load_25 qs211 (o2 c1).2.2.1 rfl ?_
    refine q_iast dX12_load_26 qs207 ((o2 c1).2.2.2.1).1 ((o2 c1).2.2.2.1).2 ?_
    refine qx_iinc (L' := [(2, 188), (0, v), (0, (v2 + 1))]) dX12_load_27 rfl rfl rfl (o2 c1).2.2.2.2 rfl ?_
    refine q_goto (tgt := 2) dX12_load_30 (by decide) ?_
    exact l3 c1
theorem bkX12_load_35 {b : Int} {mem : qm} {Q : Int → qm → Prop}
    {v v2 : Int}
    (l1 : 36 ≤ v2 → Q 0 mem)
    (o2 : v2 < 36 → q_in32 (45 * v) ∧ q_in32 ((45 * v) + 9) ∧ q_in32 (((45 * v) + 9) + v2) ∧ (0 ≤ (((45 * v) + 9) + v2) ∧ (((45 * v) + 9) + v2) < 135000) ∧ (0 ≤ v2 ∧ v2 < 36) ∧ q_in32 (v2 + 1))
    (l3 : v2 < 36 → q_At yX12_load cX12_load 3 none 1 0 0 (qK (q_rb b) Q) 35 [(2, 188), (0, v), (0, (v2 + 1))] [] (q_sh0, q_rb b, (q_up mem 216 v2 (mem 211 (((45 * v) + 9) + v2))))) :
    q_At yX12_load cX12_load 3 none 1 0 0 (qK (q_rb b) Q) 35 [(2, 188), (0, v), (0, v2)] [] (q_sh0, q_rb b, mem) := by
  refine q_iload_n dX12_load_35 rfl rfl ?_
  refine qx_bipush dX12_load_36 rfl rfl ?_
  refine qx_icmp_ge (tgt := 67) dX12_load_38 (by decide) (fun c1 => ?_) (fun c1 => ?_)
  · skip
    exact q_vret dX12_load_67 (qK_i (l1 c1))
  · skip
    refine q_aload_n dX12_load_41 rfl rfl ?_
    refine q_getR (ci := 12) (k := 44) dX12_load_42 rfl (by decide) rfl tw1227 (by decide) qs188 qw188_44 (by decide) ?_
    refine q_iload_n dX12_load_45 rfl rfl ?_
    refine q_aload_n dX12_load_46 rfl rfl ?_
    refine q_getR (ci := 12) (k := 38) dX12_load_47 rfl (by decide) rfl tw1221 (by decide) qs188 qw188_38 (by decide) ?_
    refine qx_bipush dX12_load_50 rfl rfl ?_
    refine q_iload_n dX12_load_52 rfl rfl ?_
    refine qx_imul dX12_load_53 (o2 c1).1 ?_
    refine qx_bipush dX12_load_54 rfl rfl ?_
    refine qx_iadd dX12_load_56 (o2 c1).2.1 ?_
    refine q_iload_n dX12_load_57 rfl rfl ?_
    refine qx_iadd dX12_load_58 (o2 c1).2.2.1 ?_
    refine qx_iald (v := (mem 211 (((45 * v) + 9) + v2))) dX12_load_59 qs211 (o2 c1).2.2.2.1 rfl ?_
    refine q_iast dX12_load_60 qs216 ((o2 c1).2.2.2.2.1).1 ((o2 c1).2.2.2.2.1).2 ?_
    refine qx_iinc (L' := [(2, 188), (0, v), (0, (v2 + 1))]) dX12_load_61 rfl rfl rfl (o2 c1).2.2.2.2.2 rfl ?_
    refine q_goto (tgt := 35) dX12_load_64 (by decide) ?_
    exact l3 c1
theorem dX12_isState_0 : decode cX12_isState 0 = .ok (.iconst 0, 1) := by decide +kernel
theorem dX12_isState_1 : decode cX12_isState 1 = .ok (.istore_n 2, 1) := by decide +kernel
theorem dX12_isState_2 : decode cX12_isState 2 = .ok (.iload_n 2, 1) := by decide +kernel
theorem dX12_isState_3 : decode cX12_isState 3 = .ok (.aload_n 0, 1) := by decide +kernel
theorem dX12_isState_4 : decode cX12_isState 4 = .ok (.getfield 134, 3) := by decide +kernel
theorem dX12_isState_7 : decode cX12_isState 7 = .ok (.if_icmp .ge 31, 3) := by decide +kernel
theorem dX12_isState_10 : decode cX12_isState 10 = .ok (.aload_n 0, 1) := by decide +kernel
theorem dX12_isState_11 : decode cX12_isState 11 = .ok (.getfield 85, 3) := by decide +kernel
theorem dX12_isState_14 : decode cX12_isState 14 = .ok (.bipush 45, 2) := by decide +kernel
theorem dX12_isState_16 : decode cX12_isState 16 = .ok (.iload_n 1, 1) := by decide +kernel
theorem dX12_isState_17 : decode cX12_isState 17 = .ok (.imul, 1) := by decide +kernel
theorem dX12_isState_18 : decode cX12_isState 18 = .ok (.iload_n 2, 1) := by decide +kernel
theorem dX12_isState_19 : decode cX12_isState 19 = .ok (.iadd, 1) := by decide +kernel
theorem dX12_isState_20 : decode cX12_isState 20 = .ok (.iaload, 1) := by decide +kernel
theorem dX12_isState_21 : decode cX12_isState 21 = .ok (.aload_n 0, 1) := by decide +kernel
theorem dX12_isState_22 : decode cX12_isState 22 = .ok (.getfield 72, 3) := by decide +kernel
theorem dX12_isState_25 : decode cX12_isState 25 = .ok (.iload_n 2, 1) := by decide +kernel
theorem dX12_isState_26 : decode cX12_isState 26 = .ok (.iaload, 1) := by decide +kernel
theorem dX12_isState_27 : decode cX12_isState 27 = .ok (.if_icmp .eq 5, 3) := by decide +kernel
theorem dX12_isState_30 : decode cX12_isState 30 = .ok (.iconst 0, 1) := by decide +kernel
theorem dX12_isState_31 : decode cX12_isState 31 = .ok (.ireturn, 1) := by decide +kernel
theorem dX12_isState_32 : decode cX12_isState 32 = .ok (.iinc 2 1, 3) := by decide +kernel
theorem dX12_isState_35 : decode cX12_isState 35 = .ok (.goto (-33), 3) := by decide +kernel
theorem dX12_isState_38 : decode cX12_isState 38 = .ok (.iconst 0, 1) := by decide +kernel
theorem dX12_isState_39 : decode cX12_isState 39 = .ok (.istore_n 2, 1) := by decide +kernel
theorem dX12_isState_40 : decode cX12_isState 40 = .ok (.iload_n 2, 1) := by decide +kernel
theorem dX12_isState_41 : decode cX12_isState 41 = .ok (.bipush 36, 2) := by decide +kernel
theorem dX12_isState_43 : decode cX12_isState 43 = .ok (.if_icmp .ge 34, 3) := by decide +kernel
theorem dX12_isState_46 : decode cX12_isState 46 = .ok (.aload_n 0, 1) := by decide +kernel
theorem dX12_isState_47 : decode cX12_isState 47 = .ok (.getfield 85, 3) := by decide +kernel
theorem dX12_isState_50 : decode cX12_isState 50 = .ok (.bipush 45, 2) := by decide +kernel
theorem dX12_isState_52 : decode cX12_isState 52 = .ok (.iload_n 1, 1) := by decide +kernel
theorem dX12_isState_53 : decode cX12_isState 53 = .ok (.imul, 1) := by decide +kernel
theorem dX12_isState_54 : decode cX12_isState 54 = .ok (.bipush 9, 2) := by decide +kernel
theorem dX12_isState_56 : decode cX12_isState 56 = .ok (.iadd, 1) := by decide +kernel
theorem dX12_isState_57 : decode cX12_isState 57 = .ok (.iload_n 2, 1) := by decide +kernel
theorem dX12_isState_58 : decode cX12_isState 58 = .ok (.iadd, 1) := by decide +kernel
theorem dX12_isState_59 : decode cX12_isState 59 = .ok (.iaload, 1) := by decide +kernel
theorem dX12_isState_60 : decode cX12_isState 60 = .ok (.aload_n 0, 1) := by decide +kernel
theorem dX12_isState_61 : decode cX12_isState 61 = .ok (.getfield 100, 3) := by decide +kernel
theorem dX12_isState_64 : decode cX12_isState 64 = .ok (.iload_n 2, 1) := by decide +kernel
theorem dX12_isState_65 : decode cX12_isState 65 = .ok (.iaload, 1) := by decide +kernel
theorem dX12_isState_66 : decode cX12_isState 66 = .ok (.if_icmp .eq 5, 3) := by decide +kernel
theorem dX12_isState_69 : decode cX12_isState 69 = .ok (.iconst 0, 1) := by decide +kernel
theorem dX12_isState_70 : decode cX12_isState 70 = .ok (.ireturn, 1) := by decide +kernel
theorem dX12_isState_71 : decode cX12_isState 71 = .ok (.iinc 2 1, 3) := by decide +kernel
theorem dX12_isState_74 : decode cX12_isState 74 = .ok (.goto (-34), 3) := by decide +kernel
theorem dX12_isState_77 : decode cX12_isState 77 = .ok (.iconst 1, 1) := by decide +kernel
theorem dX12_isState_78 : decode cX12_isState 78 = .ok (.ireturn, 1) := by decide +kernel
theorem bkX12_isState_0 {b : Int} {mem : qm} {Q : Int → qm → Prop}
    {v : Int}
    (l1 : q_At yX12_isState cX12_isState 3 (some .boolean) 1 0 0 (qK (q_rb b) Q) 2 [(2, 188), (0, v), (0, 0)] [] (q_sh0, q_rb b, mem)) :
    q_At yX12_isState cX12_isState 3 (some .boolean) 1 0 0 (qK (q_rb b) Q) 0 [(2, 188), (0, v), (4, 0)] [] (q_sh0, q_rb b, mem) := by
  refine qx_iconst dX12_isState_0 rfl rfl ?_
  refine qx_istore_n (L' := [(2, 188), (0, v), (0, 0)]) dX12_isState_1 rfl rfl rfl rfl ?_
  exact l1
theorem bkX12_isState_2 {b : Int} {mem : qm} {Q : Int → qm → Prop}
    {v v2 : Int}
    (l1 : (mem 188 0) ≤ v2 → q_At yX12_isState cX12_isState 3 (some .boolean) 1 0 0 (qK (q_rb b) Q) 40 [(2, 188), (0, v), (0, 0)] [] (q_sh0, q_rb b, mem))
    (o2 : v2 < (mem 188 0) → q_in32 (45 * v) ∧ q_in32 ((45 * v) + v2) ∧ (0 ≤ ((45 * v) + v2) ∧ ((45 * v) + v2) < 135000) ∧ (0 ≤ v2 ∧ v2 < 9))
    (o3 : v2 < (mem 188 0) → (mem 211 ((45 * v) + v2)) = (mem 207 v2) → q_in32 (v2 + 1))
    (l4 : v2 < (mem 188 0) → (mem 211 ((45 * v) + v2)) = (mem 207 v2) → q_At yX12_isState cX12_isState 3 (some .boolean) 1 0 0 (qK (q_rb b) Q) 2 [(2, 188), (0, v), (0, (v2 + 1))] [] (q_sh0, q_rb b, mem))
    (l5 : v2 < (mem 188 0) → (mem 211 ((45 * v) + v2)) ≠ (mem 207 v2) → Q 0 mem) :
    q_At yX12_isState cX12_isState 3 (some .boolean) 1 0 0 (qK (q_rb b) Q) 2 [(2, 188), (0, v), (0, v2)] [] (q_sh0, q_rb b, mem) := by
  refine q_iload_n dX12_isState_2 rfl rfl ?_
  refine q_aload_n dX12_isState_3 rfl rfl ?_
  refine qx_getI (ci := 12) (k := 0) (v := (mem 188 0)) dX12_isState_4 rfl rfl rfl tw1183 rfl qs188 rfl ?_
  refine qx_icmp_ge (tgt := 38) dX12_isState_7 (by decide) (fun c1 => ?_) (fun c1 => ?_)
  · skip
    refine qx_iconst dX12_isState_38 rfl rfl ?_
    refine qx_istore_n (L' := [(2, 188), (0, v), (0, 0)]) dX12_isState_39 rfl rfl rfl rfl ?_
    exact l1 c1
  · skip
    refine q_aload_n dX12_isState_10 rfl rfl ?_
    refine q_getR (ci := 12) (k := 38) dX12_isState_11 rfl (by decide) rfl tw1221 (by decide) qs188 qw188_38 (by decide) ?_
    refine qx_bipush dX12_isState_14 rfl rfl ?_
    refine q_iload_n dX12_isState_16 rfl rfl ?_
    refine qx_imul dX12_isState_17 (o2 c1).1 ?_
    refine q_iload_n dX12_isState_18 rfl rfl ?_
    refine qx_iadd dX12_isState_19 (o2 c1).2.1 ?_
    refine qx_iald (v := (mem 211 ((45 * v) + v2))) dX12_isState_20 qs211 (o2 c1).2.2.1 rfl ?_
    refine q_aload_n dX12_isState_21 rfl rfl ?_
    refine q_getR (ci := 12) (k := 33) dX12_isState_22 rfl (by decide) rfl tw1216 (by decide) qs188 qw188_33 (by decide) ?_
    refine q_iload_n dX12_isState_25 rfl rfl ?_
    refine qx_iald (v := (mem 207 v2)) dX12_isState_26 qs207 (o2 c1).2.2.2 rfl ?_
    refine qx_icmp_eq (tgt := 32) dX12_isState_27 (by decide) (fun c2 => ?_) (fun c2 => ?_)
    · skip
      refine qx_iinc (L' := [(2, 188), (0, v), (0, (v2 + 1))]) dX12_isState_32 rfl rfl rfl (o3 c1 c2) rfl ?_
      refine q_goto (tgt := 2) dX12_isState_35 (by decide) ?_
      exact l4 c1 c2
    · skip
      refine qx_iconst dX12_isState_30 rfl rfl ?_
      exact q_zret dX12_isState_31 (by decide) (qK_i (l5 c1 c2))
theorem bkX12_isState_40 {b : Int} {mem : qm} {Q : Int → qm → Prop}
    {v v2 : Int}
    (l1 : 36 ≤ v2 → Q 1 mem)
    (o2 : v2 < 36 → q_in32 (45 * v) ∧ q_in32 ((45 * v) + 9) ∧ q_in32 (((45 * v) + 9) + v2) ∧ (0 ≤ (((45 * v) + 9) + v2) ∧ (((45 * v) + 9) + v2) < 135000) ∧ (0 ≤ v2 ∧ v2 < 36))
    (o3 : v2 < 36 → (mem 211 (((45 * v) + 9) + v2)) = (mem 216 v2) → q_in32 (v2 + 1))
    (l4 : v2 < 36 → (mem 211 (((45 * v) + 9) + v2)) = (mem 216 v2) → q_At yX12_isState cX12_isState 3 (some .boolean) 1 0 0 (qK (q_rb b) Q) 40 [(2, 188), (0, v), (0, (v2 + 1))] [] (q_sh0, q_rb b, mem))
    (l5 : v2 < 36 → (mem 211 (((45 * v) + 9) + v2)) ≠ (mem 216 v2) → Q 0 mem) :
    q_At yX12_isState cX12_isState 3 (some .boolean) 1 0 0 (qK (q_rb b) Q) 40 [(2, 188), (0, v), (0, v2)] [] (q_sh0, q_rb b, mem) := by
  refine q_iload_n dX12_isState_40 rfl rfl ?_
  refine qx_bipush dX12_isState_41 rfl rfl ?_
  refine qx_icmp_ge (tgt := 77) dX12_isState_43 (by decide) (fun c1 => ?_) (fun c1 => ?_)
  · skip
    refine qx_iconst dX12_isState_77 rfl rfl ?_
    exact q_zret dX12_isState_78 (by decide) (qK_i (l1 c1))
  · skip
    refine q_aload_n dX12_isState_46 rfl rfl ?_
    refine q_getR (ci := 12) (k := 38) dX12_isState_47 rfl (by decide) rfl tw1221 (by decide) qs188 qw188_38 (by decide) ?_
    refine qx_bipush dX12_isState_50 rfl rfl ?_
    refine q_iload_n dX12_isState_52 rfl rfl ?_
    refine qx_imul dX12_isState_53 (o2 c1).1 ?_
    refine qx_bipush dX12_isState_54 rfl rfl ?_
    refine qx_iadd dX12_isState_56 (o2 c1).2.1 ?_
    refine q_iload_n dX12_isState_57 rfl rfl ?_
    refine qx_iadd dX12_isState_58 (o2 c1).2.2.1 ?_
    refine qx_iald (v := (mem 211 (((45 * v) + 9) + v2))) dX12_isState_59 qs211 (o2 c1).2.2.2.1 rfl ?_
    refine q_aload_n dX12_isState_60 rfl rfl ?_
    refine q_getR (ci := 12) (k := 44) dX12_isState_61 rfl (by decide) rfl tw1227 (by decide) qs188 qw188_44 (by decide) ?_
    refine q_iload_n dX12_isState_64 rfl rfl ?_
    refine qx_iald (v := (mem 216 v2)) dX12_isState_65 qs216 (o2 c1).2.2.2.2 rfl ?_
    refine qx_icmp_eq (tgt := 71) dX12_isState_66 (by decide) (fun c2 => ?_) (fun c2 => ?_)
    · skip
      refine qx_iinc (L' := [(2, 188), (0, v), (0, (v2 + 1))]) dX12_isState_71 rfl rfl rfl (o3 c1 c2) rfl ?_
      refine q_goto (tgt := 40) dX12_isState_74 (by decide) ?_
      exact l4 c1 c2
    · skip
      refine qx_iconst dX12_isState_69 rfl rfl ?_
      exact q_zret dX12_isState_70 (by decide) (qK_i (l5 c1 c2))
theorem dX12_isPaid_0 : decode cX12_isPaid 0 = .ok (.aload_n 0, 1) := by decide +kernel
theorem dX12_isPaid_1 : decode cX12_isPaid 1 = .ok (.getfield 100, 3) := by decide +kernel
theorem dX12_isPaid_4 : decode cX12_isPaid 4 = .ok (.astore_n 1, 1) := by decide +kernel
theorem dX12_isPaid_5 : decode cX12_isPaid 5 = .ok (.aload_n 1, 1) := by decide +kernel
theorem dX12_isPaid_6 : decode cX12_isPaid 6 = .ok (.arraylength, 1) := by decide +kernel
theorem dX12_isPaid_7 : decode cX12_isPaid 7 = .ok (.istore_n 2, 1) := by decide +kernel
theorem dX12_isPaid_8 : decode cX12_isPaid 8 = .ok (.iconst 0, 1) := by decide +kernel
theorem dX12_isPaid_9 : decode cX12_isPaid 9 = .ok (.istore_n 3, 1) := by decide +kernel
theorem dX12_isPaid_10 : decode cX12_isPaid 10 = .ok (.iload_n 3, 1) := by decide +kernel
theorem dX12_isPaid_11 : decode cX12_isPaid 11 = .ok (.iload_n 2, 1) := by decide +kernel
theorem dX12_isPaid_12 : decode cX12_isPaid 12 = .ok (.if_icmp .ge 21, 3) := by decide +kernel
theorem dX12_isPaid_15 : decode cX12_isPaid 15 = .ok (.aload_n 1, 1) := by decide +kernel
theorem dX12_isPaid_16 : decode cX12_isPaid 16 = .ok (.iload_n 3, 1) := by decide +kernel
theorem dX12_isPaid_17 : decode cX12_isPaid 17 = .ok (.iaload, 1) := by decide +kernel
theorem dX12_isPaid_18 : decode cX12_isPaid 18 = .ok (.istore 4, 2) := by decide +kernel
theorem dX12_isPaid_20 : decode cX12_isPaid 20 = .ok (.iload 4, 2) := by decide +kernel
theorem dX12_isPaid_22 : decode cX12_isPaid 22 = .ok (.ifCond .le 5, 3) := by decide +kernel
theorem dX12_isPaid_25 : decode cX12_isPaid 25 = .ok (.iconst 0, 1) := by decide +kernel
theorem dX12_isPaid_26 : decode cX12_isPaid 26 = .ok (.ireturn, 1) := by decide +kernel
theorem dX12_isPaid_27 : decode cX12_isPaid 27 = .ok (.iinc 3 1, 3) := by decide +kernel
theorem dX12_isPaid_30 : decode cX12_isPaid 30 = .ok (.goto (-20), 3) := by decide +kernel
theorem dX12_isPaid_33 : decode cX12_isPaid 33 = .ok (.iconst 1, 1) := by decide +kernel
theorem dX12_isPaid_34 : decode cX12_isPaid 34 = .ok (.ireturn, 1) := by decide +kernel
theorem bkX12_isPaid_0 {b : Int} {mem : qm} {Q : Int → qm → Prop}
    (l1 : q_At yX12_isPaid cX12_isPaid 5 (some .boolean) 1 0 0 (qK (q_rb b) Q) 10 [(2, 188), (2, 216), (0, 36), (0, 0), (4, 0)] [] (q_sh0, q_rb b, mem)) :
    q_At yX12_isPaid cX12_isPaid 5 (some .boolean) 1 0 0 (qK (q_rb b) Q) 0 [(2, 188), (4, 0), (4, 0), (4, 0), (4, 0)] [] (q_sh0, q_rb b, mem) := by
  refine q_aload_n dX12_isPaid_0 rfl rfl ?_
  refine q_getR (ci := 12) (k := 44) dX12_isPaid_1 rfl (by decide) rfl tw1227 (by decide) qs188 qw188_44 (by decide) ?_
  refine qx_astore_n (L' := [(2, 188), (2, 216), (4, 0), (4, 0), (4, 0)]) dX12_isPaid_4 rfl rfl rfl rfl ?_
  refine q_aload_n dX12_isPaid_5 rfl rfl ?_
  refine q_alen0 dX12_isPaid_6 qs216 (by decide) ?_
  refine qx_istore_n (L' := [(2, 188), (2, 216), (0, 36), (4, 0), (4, 0)]) dX12_isPaid_7 rfl rfl rfl rfl ?_
  refine qx_iconst dX12_isPaid_8 rfl rfl ?_
  refine qx_istore_n (L' := [(2, 188), (2, 216), (0, 36), (0, 0), (4, 0)]) dX12_isPaid_9 rfl rfl rfl rfl ?_
  exact l1
theorem bkX12_isPaid_10 {b : Int} {mem : qm} {Q : Int → qm → Prop}
    {v2 v3 : Int}
    (l1 : v2 ≤ v3 → Q 1 mem)
    (o2 : v3 < v2 → (0 ≤ v3 ∧ v3 < 36))
    (o3 : v3 < v2 → (mem 216 v3) ≤ 0 → q_in32 (v3 + 1))
    (l4 : v3 < v2 → (mem 216 v3) ≤ 0 → q_At yX12_isPaid cX12_isPaid 5 (some .boolean) 1 0 0 (qK (q_rb b) Q) 10 [(2, 188), (2, 216), (0, v2), (0, (v3 + 1)), (4, 0)] [] (q_sh0, q_rb b, mem))
    (l5 : v3 < v2 → 0 < (mem 216 v3) → Q 0 mem) :
    q_At yX12_isPaid cX12_isPaid 5 (some .boolean) 1 0 0 (qK (q_rb b) Q) 10 [(2, 188), (2, 216), (0, v2), (0, v3), (4, 0)] [] (q_sh0, q_rb b, mem) := by
  refine q_iload_n dX12_isPaid_10 rfl rfl ?_
  refine q_iload_n dX12_isPaid_11 rfl rfl ?_
  refine qx_icmp_ge (tgt := 33) dX12_isPaid_12 (by decide) (fun c1 => ?_) (fun c1 => ?_)
  · skip
    refine qx_iconst dX12_isPaid_33 rfl rfl ?_
    exact q_zret dX12_isPaid_34 (by decide) (qK_i (l1 c1))
  · skip
    refine q_aload_n dX12_isPaid_15 rfl rfl ?_
    refine q_iload_n dX12_isPaid_16 rfl rfl ?_
    refine qx_iald (v := (mem 216 v3)) dX12_isPaid_17 qs216 (o2 c1) rfl ?_
    refine qx_istore (L' := [(2, 188), (2, 216), (0, v2), (0, v3), (0, (mem 216 v3))]) dX12_isPaid_18 rfl rfl rfl ?_
    refine q_iload dX12_isPaid_20 rfl ?_
    refine qx_if_le (tgt := 27) dX12_isPaid_22 (by decide) (fun c2 => ?_) (fun c2 => ?_)
    · skip
      refine qx_iinc (L' := [(2, 188), (2, 216), (0, v2), (0, (v3 + 1)), (0, (mem 216 v3))]) dX12_isPaid_27 rfl rfl rfl (o3 c1 c2) rfl ?_
      refine q_goto (tgt := 10) dX12_isPaid_30 (by decide) ?_
      refine q_kill (L' := [(2, 188), (2, 216), (0, v2), (0, (v3 + 1)), (4, 0)]) 4 rfl ?_
      exact l4 c1 c2
    · skip
      refine qx_iconst dX12_isPaid_25 rfl rfl ?_
      exact q_zret dX12_isPaid_26 (by decide) (qK_i (l5 c1 c2))
theorem dX12_owedBetween_0 : decode cX12_owedBetween 0 = .ok (.aload_n 0, 1) := by decide +kernel
theorem dX12_owedBetween_1 : decode cX12_owedBetween 1 = .ok (.getfield 19, 3) := by decide +kernel
theorem dX12_owedBetween_4 : decode cX12_owedBetween 4 = .ok (.iload_n 1, 1) := by decide +kernel
theorem dX12_owedBetween_5 : decode cX12_owedBetween 5 = .ok (.iaload, 1) := by decide +kernel
theorem dX12_owedBetween_6 : decode cX12_owedBetween 6 = .ok (.aload_n 0, 1) := by decide +kernel
theorem dX12_owedBetween_7 : decode cX12_owedBetween 7 = .ok (.getfield 19, 3) := by decide +kernel
theorem dX12_owedBetween_10 : decode cX12_owedBetween 10 = .ok (.iload_n 2, 1) := by decide +kernel
theorem dX12_owedBetween_11 : decode cX12_owedBetween 11 = .ok (.iaload, 1) := by decide +kernel
theorem dX12_owedBetween_12 : decode cX12_owedBetween 12 = .ok (.if_icmp .ne 7, 3) := by decide +kernel
theorem dX12_owedBetween_15 : decode cX12_owedBetween 15 = .ok (.iconst 0, 1) := by decide +kernel
theorem dX12_owedBetween_16 : decode cX12_owedBetween 16 = .ok (.goto 24, 3) := by decide +kernel
theorem dX12_owedBetween_19 : decode cX12_owedBetween 19 = .ok (.aload_n 0, 1) := by decide +kernel
theorem dX12_owedBetween_20 : decode cX12_owedBetween 20 = .ok (.getfield 100, 3) := by decide +kernel
theorem dX12_owedBetween_23 : decode cX12_owedBetween 23 = .ok (.bipush 6, 2) := by decide +kernel
theorem dX12_owedBetween_25 : decode cX12_owedBetween 25 = .ok (.aload_n 0, 1) := by decide +kernel
theorem dX12_owedBetween_26 : decode cX12_owedBetween 26 = .ok (.getfield 19, 3) := by decide +kernel
theorem dX12_owedBetween_29 : decode cX12_owedBetween 29 = .ok (.iload_n 1, 1) := by decide +kernel
theorem dX12_owedBetween_30 : decode cX12_owedBetween 30 = .ok (.iaload, 1) := by decide +kernel
theorem dX12_owedBetween_31 : decode cX12_owedBetween 31 = .ok (.imul, 1) := by decide +kernel
theorem dX12_owedBetween_32 : decode cX12_owedBetween 32 = .ok (.aload_n 0, 1) := by decide +kernel
theorem dX12_owedBetween_33 : decode cX12_owedBetween 33 = .ok (.getfield 19, 3) := by decide +kernel
theorem dX12_owedBetween_36 : decode cX12_owedBetween 36 = .ok (.iload_n 2, 1) := by decide +kernel
theorem dX12_owedBetween_37 : decode cX12_owedBetween 37 = .ok (.iaload, 1) := by decide +kernel
theorem dX12_owedBetween_38 : decode cX12_owedBetween 38 = .ok (.iadd, 1) := by decide +kernel
theorem dX12_owedBetween_39 : decode cX12_owedBetween 39 = .ok (.iaload, 1) := by decide +kernel
theorem dX12_owedBetween_40 : decode cX12_owedBetween 40 = .ok (.istore_n 3, 1) := by decide +kernel
theorem dX12_owedBetween_41 : decode cX12_owedBetween 41 = .ok (.iload_n 3, 1) := by decide +kernel
theorem dX12_owedBetween_42 : decode cX12_owedBetween 42 = .ok (.aload_n 0, 1) := by decide +kernel
theorem dX12_owedBetween_43 : decode cX12_owedBetween 43 = .ok (.getfield 72, 3) := by decide +kernel
theorem dX12_owedBetween_46 : decode cX12_owedBetween 46 = .ok (.iload_n 1, 1) := by decide +kernel
theorem dX12_owedBetween_47 : decode cX12_owedBetween 47 = .ok (.iaload, 1) := by decide +kernel
theorem dX12_owedBetween_48 : decode cX12_owedBetween 48 = .ok (.aload_n 0, 1) := by decide +kernel
theorem dX12_owedBetween_49 : decode cX12_owedBetween 49 = .ok (.getfield 9, 3) := by decide +kernel
theorem dX12_owedBetween_52 : decode cX12_owedBetween 52 = .ok (.iload_n 2, 1) := by decide +kernel
theorem dX12_owedBetween_53 : decode cX12_owedBetween 53 = .ok (.iaload, 1) := by decide +kernel
theorem dX12_owedBetween_54 : decode cX12_owedBetween 54 = .ok (.aload_n 0, 1) := by decide +kernel
theorem dX12_owedBetween_55 : decode cX12_owedBetween 55 = .ok (.getfield 72, 3) := by decide +kernel
theorem dX12_owedBetween_58 : decode cX12_owedBetween 58 = .ok (.iload_n 2, 1) := by decide +kernel
theorem dX12_owedBetween_59 : decode cX12_owedBetween 59 = .ok (.iaload, 1) := by decide +kernel
theorem dX12_owedBetween_60 : decode cX12_owedBetween 60 = .ok (.isub, 1) := by decide +kernel
theorem dX12_owedBetween_61 : decode cX12_owedBetween 61 = .ok (.invokestatic 234, 3) := by decide +kernel
theorem dX12_owedBetween_64 : decode cX12_owedBetween 64 = .ok (.invokestatic 234, 3) := by decide +kernel
theorem dX12_owedBetween_67 : decode cX12_owedBetween 67 = .ok (.ireturn, 1) := by decide +kernel
theorem bkX12_owedBetween_0 {b : Int} {mem : qm} {Q : Int → qm → Prop}
    {x y : Int}
    (o1 : (0 ≤ x ∧ x < 9) ∧ (0 ≤ y ∧ y < 9))
    (o2 : (mem 192 x) ≠ (mem 192 y) → q_in32 (6 * (mem 192 x)) ∧ q_in32 ((6 * (mem 192 x)) + (mem 192 y)) ∧ (0 ≤ ((6 * (mem 192 x)) + (mem 192 y)) ∧ ((6 * (mem 192 x)) + (mem 192 y)) < 36) ∧ q_in32 ((mem 189 y) - (mem 207 y)))
    (l3 : (mem 192 x) ≠ (mem 192 y) → Q (min (mem 216 ((6 * (mem 192 x)) + (mem 192 y))) (min (mem 207 x) ((mem 189 y) - (mem 207 y)))) mem)
    (o4 : (mem 192 x) = (mem 192 y) → q_in32 ((mem 189 y) - (mem 207 y)))
    (l5 : (mem 192 x) = (mem 192 y) → Q (min 0 (min (mem 207 x) ((mem 189 y) - (mem 207 y)))) mem) :
    q_At yX12_owedBetween cX12_owedBetween 4 (some .int) 1 0 0 (qK (q_rb b) Q) 0 [(2, 188), (0, x), (0, y), (4, 0)] [] (q_sh0, q_rb b, mem) := by
  refine q_aload_n dX12_owedBetween_0 rfl rfl ?_
  refine q_getR (ci := 12) (k := 4) dX12_owedBetween_1 rfl (by decide) rfl tw1187 (by decide) qs188 qw188_4 (by decide) ?_
  refine q_iload_n dX12_owedBetween_4 rfl rfl ?_
  refine qx_iald (v := (mem 192 x)) dX12_owedBetween_5 qs192 (o1).1 rfl ?_
  refine q_aload_n dX12_owedBetween_6 rfl rfl ?_
  refine q_getR (ci := 12) (k := 4) dX12_owedBetween_7 rfl (by decide) rfl tw1187 (by decide) qs188 qw188_4 (by decide) ?_
  refine q_iload_n dX12_owedBetween_10 rfl rfl ?_
  refine qx_iald (v := (mem 192 y)) dX12_owedBetween_11 qs192 (o1).2 rfl ?_
  refine qx_icmp_ne (tgt := 19) dX12_owedBetween_12 (by decide) (fun c1 => ?_) (fun c1 => ?_)
  · skip
    refine q_aload_n dX12_owedBetween_19 rfl rfl ?_
    refine q_getR (ci := 12) (k := 44) dX12_owedBetween_20 rfl (by decide) rfl tw1227 (by decide) qs188 qw188_44 (by decide) ?_
    refine qx_bipush dX12_owedBetween_23 rfl rfl ?_
    refine q_aload_n dX12_owedBetween_25 rfl rfl ?_
    refine q_getR (ci := 12) (k := 4) dX12_owedBetween_26 rfl (by decide) rfl tw1187 (by decide) qs188 qw188_4 (by decide) ?_
    refine q_iload_n dX12_owedBetween_29 rfl rfl ?_
    refine qx_iald (v := (mem 192 x)) dX12_owedBetween_30 qs192 (o1).1 rfl ?_
    refine qx_imul dX12_owedBetween_31 (o2 c1).1 ?_
    refine q_aload_n dX12_owedBetween_32 rfl rfl ?_
    refine q_getR (ci := 12) (k := 4) dX12_owedBetween_33 rfl (by decide) rfl tw1187 (by decide) qs188 qw188_4 (by decide) ?_
    refine q_iload_n dX12_owedBetween_36 rfl rfl ?_
    refine qx_iald (v := (mem 192 y)) dX12_owedBetween_37 qs192 (o1).2 rfl ?_
    refine qx_iadd dX12_owedBetween_38 (o2 c1).2.1 ?_
    refine qx_iald (v := (mem 216 ((6 * (mem 192 x)) + (mem 192 y)))) dX12_owedBetween_39 qs216 (o2 c1).2.2.1 rfl ?_
    refine qx_istore_n (L' := [(2, 188), (0, x), (0, y), (0, (mem 216 ((6 * (mem 192 x)) + (mem 192 y))))]) dX12_owedBetween_40 rfl rfl rfl rfl ?_
    refine q_iload_n dX12_owedBetween_41 rfl rfl ?_
    refine q_aload_n dX12_owedBetween_42 rfl rfl ?_
    refine q_getR (ci := 12) (k := 33) dX12_owedBetween_43 rfl (by decide) rfl tw1216 (by decide) qs188 qw188_33 (by decide) ?_
    refine q_iload_n dX12_owedBetween_46 rfl rfl ?_
    refine qx_iald (v := (mem 207 x)) dX12_owedBetween_47 qs207 (o1).1 rfl ?_
    refine q_aload_n dX12_owedBetween_48 rfl rfl ?_
    refine q_getR (ci := 12) (k := 1) dX12_owedBetween_49 rfl (by decide) rfl tw1184 (by decide) qs188 qw188_1 (by decide) ?_
    refine q_iload_n dX12_owedBetween_52 rfl rfl ?_
    refine qx_iald (v := (mem 189 y)) dX12_owedBetween_53 qs189 (o1).2 rfl ?_
    refine q_aload_n dX12_owedBetween_54 rfl rfl ?_
    refine q_getR (ci := 12) (k := 33) dX12_owedBetween_55 rfl (by decide) rfl tw1216 (by decide) qs188 qw188_33 (by decide) ?_
    refine q_iload_n dX12_owedBetween_58 rfl rfl ?_
    refine qx_iald (v := (mem 207 y)) dX12_owedBetween_59 qs207 (o1).2 rfl ?_
    refine qx_isub dX12_owedBetween_60 (o2 c1).2.2.2 ?_
    refine q_min dX12_owedBetween_61 tw1457 tw429 tw15 tw430 (by decide) (Nat.le_of_ble_eq_true rfl) ?_
    refine q_min dX12_owedBetween_64 tw1457 tw429 tw15 tw430 (by decide) (Nat.le_of_ble_eq_true rfl) ?_
    exact q_iret dX12_owedBetween_67 (qK_i (l3 c1))
  · skip
    refine qx_iconst dX12_owedBetween_15 rfl rfl ?_
    refine q_goto (tgt := 40) dX12_owedBetween_16 (by decide) ?_
    refine qx_istore_n (L' := [(2, 188), (0, x), (0, y), (0, 0)]) dX12_owedBetween_40 rfl rfl rfl rfl ?_
    refine q_iload_n dX12_owedBetween_41 rfl rfl ?_
    refine q_aload_n dX12_owedBetween_42 rfl rfl ?_
    refine q_getR (ci := 12) (k := 33) dX12_owedBetween_43 rfl (by decide) rfl tw1216 (by decide) qs188 qw188_33 (by decide) ?_
    refine q_iload_n dX12_owedBetween_46 rfl rfl ?_
    refine qx_iald (v := (mem 207 x)) dX12_owedBetween_47 qs207 (o1).1 rfl ?_
    refine q_aload_n dX12_owedBetween_48 rfl rfl ?_
    refine q_getR (ci := 12) (k := 1) dX12_owedBetween_49 rfl (by decide) rfl tw1184 (by decide) qs188 qw188_1 (by decide) ?_
    refine q_iload_n dX12_owedBetween_52 rfl rfl ?_
    refine qx_iald (v := (mem 189 y)) dX12_owedBetween_53 qs189 (o1).2 rfl ?_
    refine q_aload_n dX12_owedBetween_54 rfl rfl ?_
    refine q_getR (ci := 12) (k := 33) dX12_owedBetween_55 rfl (by decide) rfl tw1216 (by decide) qs188 qw188_33 (by decide) ?_
    refine q_iload_n dX12_owedBetween_58 rfl rfl ?_
    refine qx_iald (v := (mem 207 y)) dX12_owedBetween_59 qs207 (o1).2 rfl ?_
    refine qx_isub dX12_owedBetween_60 (o4 c1) ?_
    refine q_min dX12_owedBetween_61 tw1457 tw429 tw15 tw430 (by decide) (Nat.le_of_ble_eq_true rfl) ?_
    refine q_min dX12_owedBetween_64 tw1457 tw429 tw15 tw430 (by decide) (Nat.le_of_ble_eq_true rfl) ?_
    exact q_iret dX12_owedBetween_67 (qK_i (l5 c1))
theorem dX12_payoff_0 : decode cX12_payoff 0 = .ok (.aload_n 0, 1) := by decide +kernel
theorem dX12_payoff_1 : decode cX12_payoff 1 = .ok (.iconst 0, 1) := by decide +kernel
theorem dX12_payoff_2 : decode cX12_payoff 2 = .ok (.putfield 128, 3) := by decide +kernel
theorem dX12_payoff_5 : decode cX12_payoff 5 = .ok (.iconst 0, 1) := by decide +kernel
theorem dX12_payoff_6 : decode cX12_payoff 6 = .ok (.istore_n 1, 1) := by decide +kernel
theorem dX12_payoff_7 : decode cX12_payoff 7 = .ok (.iload_n 1, 1) := by decide +kernel
theorem dX12_payoff_8 : decode cX12_payoff 8 = .ok (.sipush 8192, 3) := by decide +kernel
theorem dX12_payoff_11 : decode cX12_payoff 11 = .ok (.if_icmp .ge 16, 3) := by decide +kernel
theorem dX12_payoff_14 : decode cX12_payoff 14 = .ok (.aload_n 0, 1) := by decide +kernel
theorem dX12_payoff_15 : decode cX12_payoff 15 = .ok (.getfield 97, 3) := by decide +kernel
theorem dX12_payoff_18 : decode cX12_payoff 18 = .ok (.iload_n 1, 1) := by decide +kernel
theorem dX12_payoff_19 : decode cX12_payoff 19 = .ok (.iconst 0, 1) := by decide +kernel
theorem dX12_payoff_20 : decode cX12_payoff 20 = .ok (.iastore, 1) := by decide +kernel
theorem dX12_payoff_21 : decode cX12_payoff 21 = .ok (.iinc 1 1, 3) := by decide +kernel
theorem dX12_payoff_24 : decode cX12_payoff 24 = .ok (.goto (-17), 3) := by decide +kernel
theorem dX12_payoff_27 : decode cX12_payoff 27 = .ok (.aload_n 0, 1) := by decide +kernel
theorem dX12_payoff_28 : decode cX12_payoff 28 = .ok (.iconst 0, 1) := by decide +kernel
theorem dX12_payoff_29 : decode cX12_payoff 29 = .ok (.putfield 336, 3) := by decide +kernel
theorem dX12_payoff_32 : decode cX12_payoff 32 = .ok (.aload_n 0, 1) := by decide +kernel
theorem dX12_payoff_33 : decode cX12_payoff 33 = .ok (.invokevirtual 312, 3) := by decide +kernel
theorem dX12_payoff_36 : decode cX12_payoff 36 = .ok (.iconst 0, 1) := by decide +kernel
theorem dX12_payoff_37 : decode cX12_payoff 37 = .ok (.istore_n 1, 1) := by decide +kernel
theorem dX12_payoff_38 : decode cX12_payoff 38 = .ok (.iload_n 1, 1) := by decide +kernel
theorem dX12_payoff_39 : decode cX12_payoff 39 = .ok (.bipush 36, 2) := by decide +kernel
theorem dX12_payoff_41 : decode cX12_payoff 41 = .ok (.if_icmp .ge 21, 3) := by decide +kernel
theorem dX12_payoff_44 : decode cX12_payoff 44 = .ok (.aload_n 0, 1) := by decide +kernel
theorem dX12_payoff_45 : decode cX12_payoff 45 = .ok (.getfield 100, 3) := by decide +kernel
theorem dX12_payoff_48 : decode cX12_payoff 48 = .ok (.iload_n 1, 1) := by decide +kernel
theorem dX12_payoff_49 : decode cX12_payoff 49 = .ok (.aload_n 0, 1) := by decide +kernel
theorem dX12_payoff_50 : decode cX12_payoff 50 = .ok (.getfield 34, 3) := by decide +kernel
theorem dX12_payoff_53 : decode cX12_payoff 53 = .ok (.iload_n 1, 1) := by decide +kernel
theorem dX12_payoff_54 : decode cX12_payoff 54 = .ok (.iaload, 1) := by decide +kernel
theorem dX12_payoff_55 : decode cX12_payoff 55 = .ok (.iastore, 1) := by decide +kernel
theorem dX12_payoff_56 : decode cX12_payoff 56 = .ok (.iinc 1 1, 3) := by decide +kernel
theorem dX12_payoff_59 : decode cX12_payoff 59 = .ok (.goto (-21), 3) := by decide +kernel
theorem dX12_payoff_62 : decode cX12_payoff 62 = .ok (.aload_n 0, 1) := by decide +kernel
theorem dX12_payoff_63 : decode cX12_payoff 63 = .ok (.iconst (-1), 1) := by decide +kernel
theorem dX12_payoff_64 : decode cX12_payoff 64 = .ok (.iconst 0, 1) := by decide +kernel
theorem dX12_payoff_65 : decode cX12_payoff 65 = .ok (.invokevirtual 339, 3) := by decide +kernel
theorem dX12_payoff_68 : decode cX12_payoff 68 = .ok (.pop, 1) := by decide +kernel
theorem dX12_payoff_69 : decode cX12_payoff 69 = .ok (.iconst 1, 1) := by decide +kernel
theorem dX12_payoff_70 : decode cX12_payoff 70 = .ok (.istore_n 1, 1) := by decide +kernel
theorem dX12_payoff_71 : decode cX12_payoff 71 = .ok (.iconst 0, 1) := by decide +kernel
theorem dX12_payoff_72 : decode cX12_payoff 72 = .ok (.istore_n 2, 1) := by decide +kernel
theorem dX12_payoff_73 : decode cX12_payoff 73 = .ok (.iload_n 2, 1) := by decide +kernel
theorem dX12_payoff_74 : decode cX12_payoff 74 = .ok (.aload_n 0, 1) := by decide +kernel
theorem dX12_payoff_75 : decode cX12_payoff 75 = .ok (.getfield 336, 3) := by decide +kernel
theorem dX12_payoff_78 : decode cX12_payoff 78 = .ok (.if_icmp .ge 153, 3) := by decide +kernel
theorem dX12_payoff_81 : decode cX12_payoff 81 = .ok (.iload_n 1, 1) := by decide +kernel
theorem dX12_payoff_82 : decode cX12_payoff 82 = .ok (.ifCond .eq 149, 3) := by decide +kernel
theorem dX12_payoff_85 : decode cX12_payoff 85 = .ok (.iconst 0, 1) := by decide +kernel
theorem dX12_payoff_86 : decode cX12_payoff 86 = .ok (.istore_n 3, 1) := by decide +kernel
theorem dX12_payoff_87 : decode cX12_payoff 87 = .ok (.iload_n 3, 1) := by decide +kernel
theorem dX12_payoff_88 : decode cX12_payoff 88 = .ok (.aload_n 0, 1) := by decide +kernel
theorem dX12_payoff_89 : decode cX12_payoff 89 = .ok (.getfield 134, 3) := by decide +kernel
theorem dX12_payoff_92 : decode cX12_payoff 92 = .ok (.if_icmp .ge 133, 3) := by decide +kernel
theorem dX12_payoff_95 : decode cX12_payoff 95 = .ok (.iconst 0, 1) := by decide +kernel
theorem dX12_payoff_96 : decode cX12_payoff 96 = .ok (.istore 4, 2) := by decide +kernel
theorem dX12_payoff_98 : decode cX12_payoff 98 = .ok (.iload 4, 2) := by decide +kernel
theorem dX12_payoff_100 : decode cX12_payoff 100 = .ok (.aload_n 0, 1) := by decide +kernel
theorem dX12_payoff_101 : decode cX12_payoff 101 = .ok (.getfield 134, 3) := by decide +kernel
theorem dX12_payoff_104 : decode cX12_payoff 104 = .ok (.if_icmp .ge 115, 3) := by decide +kernel
theorem dX12_payoff_107 : decode cX12_payoff 107 = .ok (.iload_n 1, 1) := by decide +kernel
theorem dX12_payoff_108 : decode cX12_payoff 108 = .ok (.ifCond .eq 111, 3) := by decide +kernel
theorem dX12_payoff_111 : decode cX12_payoff 111 = .ok (.aload_n 0, 1) := by decide +kernel
theorem dX12_payoff_112 : decode cX12_payoff 112 = .ok (.iload_n 2, 1) := by decide +kernel
theorem dX12_payoff_113 : decode cX12_payoff 113 = .ok (.invokevirtual 342, 3) := by decide +kernel
theorem dX12_payoff_116 : decode cX12_payoff 116 = .ok (.iload_n 3, 1) := by decide +kernel
theorem dX12_payoff_117 : decode cX12_payoff 117 = .ok (.iload 4, 2) := by decide +kernel
theorem dX12_payoff_119 : decode cX12_payoff 119 = .ok (.if_icmp .ne 7, 3) := by decide +kernel
theorem dX12_payoff_122 : decode cX12_payoff 122 = .ok (.iconst 0, 1) := by decide +kernel
theorem dX12_payoff_123 : decode cX12_payoff 123 = .ok (.goto 10, 3) := by decide +kernel
theorem dX12_payoff_126 : decode cX12_payoff 126 = .ok (.aload_n 0, 1) := by decide +kernel
theorem dX12_payoff_127 : decode cX12_payoff 127 = .ok (.iload_n 3, 1) := by decide +kernel
theorem dX12_payoff_128 : decode cX12_payoff 128 = .ok (.iload 4, 2) := by decide +kernel
theorem dX12_payoff_130 : decode cX12_payoff 130 = .ok (.invokevirtual 345, 3) := by decide +kernel
theorem dX12_payoff_133 : decode cX12_payoff 133 = .ok (.istore 5, 2) := by decide +kernel
theorem dX12_payoff_135 : decode cX12_payoff 135 = .ok (.iload 5, 2) := by decide +kernel
theorem dX12_payoff_137 : decode cX12_payoff 137 = .ok (.ifCond .ne 6, 3) := by decide +kernel
theorem dX12_payoff_140 : decode cX12_payoff 140 = .ok (.goto 73, 3) := by decide +kernel
theorem dX12_payoff_143 : decode cX12_payoff 143 = .ok (.aload_n 0, 1) := by decide +kernel
theorem dX12_payoff_144 : decode cX12_payoff 144 = .ok (.getfield 72, 3) := by decide +kernel
theorem dX12_payoff_147 : decode cX12_payoff 147 = .ok (.iload_n 3, 1) := by decide +kernel
theorem dX12_payoff_148 : decode cX12_payoff 148 = .ok (.dup2, 1) := by decide +kernel
theorem dX12_payoff_149 : decode cX12_payoff 149 = .ok (.iaload, 1) := by decide +kernel
theorem dX12_payoff_150 : decode cX12_payoff 150 = .ok (.iload 5, 2) := by decide +kernel
theorem dX12_payoff_152 : decode cX12_payoff 152 = .ok (.isub, 1) := by decide +kernel
theorem dX12_payoff_153 : decode cX12_payoff 153 = .ok (.iastore, 1) := by decide +kernel
theorem dX12_payoff_154 : decode cX12_payoff 154 = .ok (.aload_n 0, 1) := by decide +kernel
theorem dX12_payoff_155 : decode cX12_payoff 155 = .ok (.getfield 72, 3) := by decide +kernel
theorem dX12_payoff_158 : decode cX12_payoff 158 = .ok (.iload 4, 2) := by decide +kernel
theorem dX12_payoff_160 : decode cX12_payoff 160 = .ok (.dup2, 1) := by decide +kernel
theorem dX12_payoff_161 : decode cX12_payoff 161 = .ok (.iaload, 1) := by decide +kernel
theorem dX12_payoff_162 : decode cX12_payoff 162 = .ok (.iload 5, 2) := by decide +kernel
theorem dX12_payoff_164 : decode cX12_payoff 164 = .ok (.iadd, 1) := by decide +kernel
theorem dX12_payoff_165 : decode cX12_payoff 165 = .ok (.iastore, 1) := by decide +kernel
theorem dX12_payoff_166 : decode cX12_payoff 166 = .ok (.aload_n 0, 1) := by decide +kernel
theorem dX12_payoff_167 : decode cX12_payoff 167 = .ok (.getfield 100, 3) := by decide +kernel
theorem dX12_payoff_170 : decode cX12_payoff 170 = .ok (.bipush 6, 2) := by decide +kernel
theorem dX12_payoff_172 : decode cX12_payoff 172 = .ok (.aload_n 0, 1) := by decide +kernel
theorem dX12_payoff_173 : decode cX12_payoff 173 = .ok (.getfield 19, 3) := by decide +kernel
theorem dX12_payoff_176 : decode cX12_payoff 176 = .ok (.iload_n 3, 1) := by decide +kernel
theorem dX12_payoff_177 : decode cX12_payoff 177 = .ok (.iaload, 1) := by decide +kernel
theorem dX12_payoff_178 : decode cX12_payoff 178 = .ok (.imul, 1) := by decide +kernel
theorem dX12_payoff_179 : decode cX12_payoff 179 = .ok (.aload_n 0, 1) := by decide +kernel
theorem dX12_payoff_180 : decode cX12_payoff 180 = .ok (.getfield 19, 3) := by decide +kernel
theorem dX12_payoff_183 : decode cX12_payoff 183 = .ok (.iload 4, 2) := by decide +kernel
theorem dX12_payoff_185 : decode cX12_payoff 185 = .ok (.iaload, 1) := by decide +kernel
theorem dX12_payoff_186 : decode cX12_payoff 186 = .ok (.iadd, 1) := by decide +kernel
theorem dX12_payoff_187 : decode cX12_payoff 187 = .ok (.dup2, 1) := by decide +kernel
theorem dX12_payoff_188 : decode cX12_payoff 188 = .ok (.iaload, 1) := by decide +kernel
theorem dX12_payoff_189 : decode cX12_payoff 189 = .ok (.iload 5, 2) := by decide +kernel
theorem dX12_payoff_191 : decode cX12_payoff 191 = .ok (.isub, 1) := by decide +kernel
theorem dX12_payoff_192 : decode cX12_payoff 192 = .ok (.iastore, 1) := by decide +kernel
theorem dX12_payoff_193 : decode cX12_payoff 193 = .ok (.aload_n 0, 1) := by decide +kernel
theorem dX12_payoff_194 : decode cX12_payoff 194 = .ok (.iload_n 2, 1) := by decide +kernel
theorem dX12_payoff_195 : decode cX12_payoff 195 = .ok (.sipush 1000, 3) := by decide +kernel
theorem dX12_payoff_198 : decode cX12_payoff 198 = .ok (.iload_n 3, 1) := by decide +kernel
theorem dX12_payoff_199 : decode cX12_payoff 199 = .ok (.imul, 1) := by decide +kernel
theorem dX12_payoff_200 : decode cX12_payoff 200 = .ok (.bipush 100, 2) := by decide +kernel
theorem dX12_payoff_202 : decode cX12_payoff 202 = .ok (.iload 4, 2) := by decide +kernel
theorem dX12_payoff_204 : decode cX12_payoff 204 = .ok (.imul, 1) := by decide +kernel
theorem dX12_payoff_205 : decode cX12_payoff 205 = .ok (.iadd, 1) := by decide +kernel
theorem dX12_payoff_206 : decode cX12_payoff 206 = .ok (.iload 5, 2) := by decide +kernel
theorem dX12_payoff_208 : decode cX12_payoff 208 = .ok (.iadd, 1) := by decide +kernel
theorem dX12_payoff_209 : decode cX12_payoff 209 = .ok (.invokevirtual 339, 3) := by decide +kernel
theorem dX12_payoff_212 : decode cX12_payoff 212 = .ok (.istore_n 1, 1) := by decide +kernel
theorem dX12_payoff_213 : decode cX12_payoff 213 = .ok (.iinc 4 1, 3) := by decide +kernel
theorem dX12_payoff_216 : decode cX12_payoff 216 = .ok (.goto (-118), 3) := by decide +kernel
theorem dX12_payoff_219 : decode cX12_payoff 219 = .ok (.iinc 3 1, 3) := by decide +kernel
theorem dX12_payoff_222 : decode cX12_payoff 222 = .ok (.goto (-135), 3) := by decide +kernel
theorem dX12_payoff_225 : decode cX12_payoff 225 = .ok (.iinc 2 1, 3) := by decide +kernel
theorem dX12_payoff_228 : decode cX12_payoff 228 = .ok (.goto (-155), 3) := by decide +kernel
theorem dX12_payoff_231 : decode cX12_payoff 231 = .ok (.iload_n 1, 1) := by decide +kernel
theorem dX12_payoff_232 : decode cX12_payoff 232 = .ok (.ifCond .ne 6, 3) := by decide +kernel
theorem dX12_payoff_235 : decode cX12_payoff 235 = .ok (.bipush (-3), 2) := by decide +kernel
theorem dX12_payoff_237 : decode cX12_payoff 237 = .ok (.ireturn, 1) := by decide +kernel
theorem dX12_payoff_238 : decode cX12_payoff 238 = .ok (.iconst (-1), 1) := by decide +kernel
theorem dX12_payoff_239 : decode cX12_payoff 239 = .ok (.istore_n 2, 1) := by decide +kernel
theorem dX12_payoff_240 : decode cX12_payoff 240 = .ok (.iconst 0, 1) := by decide +kernel
theorem dX12_payoff_241 : decode cX12_payoff 241 = .ok (.istore_n 3, 1) := by decide +kernel
theorem dX12_payoff_242 : decode cX12_payoff 242 = .ok (.iload_n 3, 1) := by decide +kernel
theorem dX12_payoff_243 : decode cX12_payoff 243 = .ok (.aload_n 0, 1) := by decide +kernel
theorem dX12_payoff_244 : decode cX12_payoff 244 = .ok (.getfield 336, 3) := by decide +kernel
theorem dX12_payoff_247 : decode cX12_payoff 247 = .ok (.if_icmp .ge 32, 3) := by decide +kernel
theorem dX12_payoff_250 : decode cX12_payoff 250 = .ok (.iload_n 2, 1) := by decide +kernel
theorem dX12_payoff_251 : decode cX12_payoff 251 = .ok (.iconst (-1), 1) := by decide +kernel
theorem dX12_payoff_252 : decode cX12_payoff 252 = .ok (.if_icmp .ne 27, 3) := by decide +kernel
theorem dX12_payoff_255 : decode cX12_payoff 255 = .ok (.aload_n 0, 1) := by decide +kernel
theorem dX12_payoff_256 : decode cX12_payoff 256 = .ok (.iload_n 3, 1) := by decide +kernel
theorem dX12_payoff_257 : decode cX12_payoff 257 = .ok (.invokevirtual 342, 3) := by decide +kernel
theorem dX12_payoff_260 : decode cX12_payoff 260 = .ok (.aload_n 0, 1) := by decide +kernel
theorem dX12_payoff_261 : decode cX12_payoff 261 = .ok (.invokevirtual 348, 3) := by decide +kernel
theorem dX12_payoff_264 : decode cX12_payoff 264 = .ok (.ifCond .eq 7, 3) := by decide +kernel
theorem dX12_payoff_267 : decode cX12_payoff 267 = .ok (.iload_n 3, 1) := by decide +kernel
theorem dX12_payoff_268 : decode cX12_payoff 268 = .ok (.goto 4, 3) := by decide +kernel
theorem dX12_payoff_271 : decode cX12_payoff 271 = .ok (.iconst (-1), 1) := by decide +kernel
theorem dX12_payoff_272 : decode cX12_payoff 272 = .ok (.istore_n 2, 1) := by decide +kernel
theorem dX12_payoff_273 : decode cX12_payoff 273 = .ok (.iinc 3 1, 3) := by decide +kernel
theorem dX12_payoff_276 : decode cX12_payoff 276 = .ok (.goto (-34), 3) := by decide +kernel
theorem dX12_payoff_279 : decode cX12_payoff 279 = .ok (.iload_n 2, 1) := by decide +kernel
theorem dX12_payoff_280 : decode cX12_payoff 280 = .ok (.iconst (-1), 1) := by decide +kernel
theorem dX12_payoff_281 : decode cX12_payoff 281 = .ok (.if_icmp .ne 6, 3) := by decide +kernel
theorem dX12_payoff_284 : decode cX12_payoff 284 = .ok (.bipush (-2), 2) := by decide +kernel
theorem dX12_payoff_286 : decode cX12_payoff 286 = .ok (.ireturn, 1) := by decide +kernel
theorem dX12_payoff_287 : decode cX12_payoff 287 = .ok (.iload_n 2, 1) := by decide +kernel
theorem dX12_payoff_288 : decode cX12_payoff 288 = .ok (.istore_n 3, 1) := by decide +kernel
theorem dX12_payoff_289 : decode cX12_payoff 289 = .ok (.aload_n 0, 1) := by decide +kernel
theorem dX12_payoff_290 : decode cX12_payoff 290 = .ok (.getfield 88, 3) := by decide +kernel
theorem dX12_payoff_293 : decode cX12_payoff 293 = .ok (.iload_n 2, 1) := by decide +kernel
theorem dX12_payoff_294 : decode cX12_payoff 294 = .ok (.iaload, 1) := by decide +kernel
theorem dX12_payoff_295 : decode cX12_payoff 295 = .ok (.iconst 1, 1) := by decide +kernel
theorem dX12_payoff_296 : decode cX12_payoff 296 = .ok (.isub, 1) := by decide +kernel
theorem dX12_payoff_297 : decode cX12_payoff 297 = .ok (.istore 4, 2) := by decide +kernel
theorem dX12_payoff_299 : decode cX12_payoff 299 = .ok (.iload 4, 2) := by decide +kernel
theorem dX12_payoff_301 : decode cX12_payoff 301 = .ok (.ifCond .lt 29, 3) := by decide +kernel
theorem dX12_payoff_304 : decode cX12_payoff 304 = .ok (.aload_n 0, 1) := by decide +kernel
theorem dX12_payoff_305 : decode cX12_payoff 305 = .ok (.getfield 103, 3) := by decide +kernel
theorem dX12_payoff_308 : decode cX12_payoff 308 = .ok (.iload 4, 2) := by decide +kernel
theorem dX12_payoff_310 : decode cX12_payoff 310 = .ok (.aload_n 0, 1) := by decide +kernel
theorem dX12_payoff_311 : decode cX12_payoff 311 = .ok (.getfield 94, 3) := by decide +kernel
theorem dX12_payoff_314 : decode cX12_payoff 314 = .ok (.iload_n 3, 1) := by decide +kernel
theorem dX12_payoff_315 : decode cX12_payoff 315 = .ok (.iaload, 1) := by decide +kernel
theorem dX12_payoff_316 : decode cX12_payoff 316 = .ok (.iastore, 1) := by decide +kernel
theorem dX12_payoff_317 : decode cX12_payoff 317 = .ok (.aload_n 0, 1) := by decide +kernel
theorem dX12_payoff_318 : decode cX12_payoff 318 = .ok (.getfield 91, 3) := by decide +kernel
theorem dX12_payoff_321 : decode cX12_payoff 321 = .ok (.iload_n 3, 1) := by decide +kernel
theorem dX12_payoff_322 : decode cX12_payoff 322 = .ok (.iaload, 1) := by decide +kernel
theorem dX12_payoff_323 : decode cX12_payoff 323 = .ok (.istore_n 3, 1) := by decide +kernel
theorem dX12_payoff_324 : decode cX12_payoff 324 = .ok (.iinc 4 (-1), 3) := by decide +kernel
theorem dX12_payoff_327 : decode cX12_payoff 327 = .ok (.goto (-28), 3) := by decide +kernel
theorem dX12_payoff_330 : decode cX12_payoff 330 = .ok (.aload_n 0, 1) := by decide +kernel
theorem dX12_payoff_331 : decode cX12_payoff 331 = .ok (.iconst 0, 1) := by decide +kernel
theorem dX12_payoff_332 : decode cX12_payoff 332 = .ok (.putfield 131, 3) := by decide +kernel
theorem dX12_payoff_335 : decode cX12_payoff 335 = .ok (.iconst 0, 1) := by decide +kernel
theorem dX12_payoff_336 : decode cX12_payoff 336 = .ok (.istore 4, 2) := by decide +kernel
theorem dX12_payoff_338 : decode cX12_payoff 338 = .ok (.iload 4, 2) := by decide +kernel
theorem dX12_payoff_340 : decode cX12_payoff 340 = .ok (.aload_n 0, 1) := by decide +kernel
theorem dX12_payoff_341 : decode cX12_payoff 341 = .ok (.getfield 88, 3) := by decide +kernel
theorem dX12_payoff_344 : decode cX12_payoff 344 = .ok (.iload_n 2, 1) := by decide +kernel
theorem dX12_payoff_345 : decode cX12_payoff 345 = .ok (.iaload, 1) := by decide +kernel
theorem dX12_payoff_346 : decode cX12_payoff 346 = .ok (.if_icmp .ge 27, 3) := by decide +kernel
theorem dX12_payoff_349 : decode cX12_payoff 349 = .ok (.iload 4, 2) := by decide +kernel
theorem dX12_payoff_351 : decode cX12_payoff 351 = .ok (.bipush 10, 2) := by decide +kernel
theorem dX12_payoff_353 : decode cX12_payoff 353 = .ok (.if_icmp .ge 20, 3) := by decide +kernel
theorem dX12_payoff_356 : decode cX12_payoff 356 = .ok (.aload_n 0, 1) := by decide +kernel
theorem dX12_payoff_357 : decode cX12_payoff 357 = .ok (.aload_n 0, 1) := by decide +kernel
theorem dX12_payoff_358 : decode cX12_payoff 358 = .ok (.getfield 103, 3) := by decide +kernel
theorem dX12_payoff_361 : decode cX12_payoff 361 = .ok (.iload 4, 2) := by decide +kernel
theorem dX12_payoff_363 : decode cX12_payoff 363 = .ok (.iaload, 1) := by decide +kernel
theorem dX12_payoff_364 : decode cX12_payoff 364 = .ok (.invokevirtual 276, 3) := by decide +kernel
theorem dX12_payoff_367 : decode cX12_payoff 367 = .ok (.iinc 4 1, 3) := by decide +kernel
theorem dX12_payoff_370 : decode cX12_payoff 370 = .ok (.goto (-32), 3) := by decide +kernel
theorem dX12_payoff_373 : decode cX12_payoff 373 = .ok (.aload_n 0, 1) := by decide +kernel
theorem dX12_payoff_374 : decode cX12_payoff 374 = .ok (.getfield 88, 3) := by decide +kernel
theorem dX12_payoff_377 : decode cX12_payoff 377 = .ok (.iload_n 2, 1) := by decide +kernel
theorem dX12_payoff_378 : decode cX12_payoff 378 = .ok (.iaload, 1) := by decide +kernel
theorem dX12_payoff_379 : decode cX12_payoff 379 = .ok (.ireturn, 1) := by decide +kernel
theorem bkX12_payoff_0 {b : Int} {mem : qm} {Q : Int → qm → Prop}
    (l1 : q_At yX12_payoff cX12_payoff 6 (some .int) 3 0 0 (qK (q_rb b) Q) 7 [(2, 188), (0, 0), (4, 0), (4, 0), (4, 0), (4, 0)] [] (q_sh0, q_rb b, (q_up mem 188 17 0))) :
    q_At yX12_payoff cX12_payoff 6 (some .int) 3 0 0 (qK (q_rb b) Q) 0 [(2, 188), (4, 0), (4, 0), (4, 0), (4, 0), (4, 0)] [] (q_sh0, q_rb b, mem) := by
  refine q_aload_n dX12_payoff_0 rfl rfl ?_
  refine qx_iconst dX12_payoff_1 rfl rfl ?_
  refine q_putI (ci := 12) (k := 17) (kI := 17) (ty := .int) dX12_payoff_2 rfl (by decide) rfl tw1200 rfl rfl rfl (fun _ => ⟨rfl, rfl⟩) qs188 ?_
  refine qx_iconst dX12_payoff_5 rfl rfl ?_
  refine qx_istore_n (L' := [(2, 188), (0, 0), (4, 0), (4, 0), (4, 0), (4, 0)]) dX12_payoff_6 rfl rfl rfl rfl ?_
  exact l1
theorem bkX12_payoff_7 {b : Int} {mem : qm} {Q : Int → qm → Prop}
    {v1 : Int}
    {P2 : Int → qm → Prop}
    (l1 : 8192 ≤ v1 → q_Ev yX12_begin_ cX12_begin_ 2 none 1 0 0 [(2, 188)] (q_sh0, q_rb b, (q_up mem 188 42 0)) (qK (q_rb b) (P2)))
    (l2 : 8192 ≤ v1 → ∀ (r2 : Int), ∀ (m2 : qm), P2 r2 m2 → q_in32 r2 → q_At yX12_payoff cX12_payoff 6 (some .int) 3 0 0 (qK (q_rb b) Q) 38 [(2, 188), (0, 0), (4, 0), (4, 0), (4, 0), (4, 0)] [] (q_sh0, q_rb b, m2))
    (o3 : v1 < 8192 → (0 ≤ v1 ∧ v1 < 8192) ∧ q_in32 (v1 + 1))
    (l4 : v1 < 8192 → q_At yX12_payoff cX12_payoff 6 (some .int) 3 0 0 (qK (q_rb b) Q) 7 [(2, 188), (0, (v1 + 1)), (4, 0), (4, 0), (4, 0), (4, 0)] [] (q_sh0, q_rb b, (q_up mem 215 v1 0))) :
    q_At yX12_payoff cX12_payoff 6 (some .int) 3 0 0 (qK (q_rb b) Q) 7 [(2, 188), (0, v1), (4, 0), (4, 0), (4, 0), (4, 0)] [] (q_sh0, q_rb b, mem) := by
  refine q_iload_n dX12_payoff_7 rfl rfl ?_
  refine qx_sipush dX12_payoff_8 rfl rfl ?_
  refine qx_icmp_ge (tgt := 27) dX12_payoff_11 (by decide) (fun c1 => ?_) (fun c1 => ?_)
  · skip
    refine q_aload_n dX12_payoff_27 rfl rfl ?_
    refine qx_iconst dX12_payoff_28 rfl rfl ?_
    refine q_putI (ci := 12) (k := 42) (kI := 42) (ty := .int) dX12_payoff_29 rfl (by decide) rfl tw1225 rfl rfl rfl (fun _ => ⟨rfl, rfl⟩) qs188 ?_
    refine q_aload_n dX12_payoff_32 rfl rfl ?_
    refine qx_invV (ci := 12) [] [(2, 188)] rfl qM_X12_begin_ dX12_payoff_33 tw1559 rfl qs188 rfl rfl rfl rfl (l1 c1) (fun r2 m2 p2 q2 => ?_)
    refine qx_iconst dX12_payoff_36 rfl rfl ?_
    refine qx_istore_n (L' := [(2, 188), (0, 0), (4, 0), (4, 0), (4, 0), (4, 0)]) dX12_payoff_37 rfl rfl rfl rfl ?_
    exact l2 c1 r2 m2 p2 q2
  · skip
    refine q_aload_n dX12_payoff_14 rfl rfl ?_
    refine q_getR (ci := 12) (k := 43) dX12_payoff_15 rfl (by decide) rfl tw1226 (by decide) qs188 qw188_43 (by decide) ?_
    refine q_iload_n dX12_payoff_18 rfl rfl ?_
    refine qx_iconst dX12_payoff_19 rfl rfl ?_
    refine q_iast dX12_payoff_20 qs215 ((o3 c1).1).1 ((o3 c1).1).2 ?_
    refine qx_iinc (L' := [(2, 188), (0, (v1 + 1)), (4, 0), (4, 0), (4, 0), (4, 0)]) dX12_payoff_21 rfl rfl rfl (o3 c1).2 rfl ?_
    refine q_goto (tgt := 7) dX12_payoff_24 (by decide) ?_
    exact l4 c1
theorem bkX12_payoff_38 {b : Int} {mem : qm} {Q : Int → qm → Prop}
    {v1 : Int}
    {P2 : Int → qm → Prop}
    (l1 : 36 ≤ v1 → q_Ev yX12_addState cX12_addState 8 (some .boolean) 2 0 0 [(2, 188), (0, (-1)), (0, 0)] (q_sh0, q_rb b, mem) (qK (q_rb b) (P2)))
    (l2 : 36 ≤ v1 → ∀ (r2 : Int), ∀ (m2 : qm), P2 r2 m2 → q_in32 r2 → q_At yX12_payoff cX12_payoff 6 (some .int) 3 0 0 (qK (q_rb b) Q) 73 [(2, 188), (0, 1), (0, 0), (4, 0), (4, 0), (4, 0)] [] (q_sh0, q_rb b, m2))
    (o3 : v1 < 36 → (0 ≤ v1 ∧ v1 < 36) ∧ q_in32 (v1 + 1))
    (l4 : v1 < 36 → q_At yX12_payoff cX12_payoff 6 (some .int) 3 0 0 (qK (q_rb b) Q) 38 [(2, 188), (0, (v1 + 1)), (4, 0), (4, 0), (4, 0), (4, 0)] [] (q_sh0, q_rb b, (q_up mem 216 v1 (mem 197 v1)))) :
    q_At yX12_payoff cX12_payoff 6 (some .int) 3 0 0 (qK (q_rb b) Q) 38 [(2, 188), (0, v1), (4, 0), (4, 0), (4, 0), (4, 0)] [] (q_sh0, q_rb b, mem) := by
  refine q_iload_n dX12_payoff_38 rfl rfl ?_
  refine qx_bipush dX12_payoff_39 rfl rfl ?_
  refine qx_icmp_ge (tgt := 62) dX12_payoff_41 (by decide) (fun c1 => ?_) (fun c1 => ?_)
  · skip
    refine q_aload_n dX12_payoff_62 rfl rfl ?_
    refine qx_iconst dX12_payoff_63 rfl rfl ?_
    refine qx_iconst dX12_payoff_64 rfl rfl ?_
    refine qx_invV (ci := 12) [(0, (-1)), (0, 0)] [(0, 0), (0, (-1)), (2, 188)] rfl qM_X12_addState dX12_payoff_65 tw1623 rfl qs188 rfl rfl rfl rfl (l1 c1) (fun r2 m2 p2 q2 => ?_)
    refine q_pop dX12_payoff_68 (fun h => by cases h) ?_
    refine qx_iconst dX12_payoff_69 rfl rfl ?_
    refine qx_istore_n (L' := [(2, 188), (0, 1), (4, 0), (4, 0), (4, 0), (4, 0)]) dX12_payoff_70 rfl rfl rfl rfl ?_
    refine qx_iconst dX12_payoff_71 rfl rfl ?_
    refine qx_istore_n (L' := [(2, 188), (0, 1), (0, 0), (4, 0), (4, 0), (4, 0)]) dX12_payoff_72 rfl rfl rfl rfl ?_
    exact l2 c1 r2 m2 p2 q2
  · skip
    refine q_aload_n dX12_payoff_44 rfl rfl ?_
    refine q_getR (ci := 12) (k := 44) dX12_payoff_45 rfl (by decide) rfl tw1227 (by decide) qs188 qw188_44 (by decide) ?_
    refine q_iload_n dX12_payoff_48 rfl rfl ?_
    refine q_aload_n dX12_payoff_49 rfl rfl ?_
    refine q_getR (ci := 12) (k := 9) dX12_payoff_50 rfl (by decide) rfl tw1192 (by decide) qs188 qw188_9 (by decide) ?_
    refine q_iload_n dX12_payoff_53 rfl rfl ?_
    refine qx_iald (v := (mem 197 v1)) dX12_payoff_54 qs197 (o3 c1).1 rfl ?_
    refine q_iast dX12_payoff_55 qs216 ((o3 c1).1).1 ((o3 c1).1).2 ?_
    refine qx_iinc (L' := [(2, 188), (0, (v1 + 1)), (4, 0), (4, 0), (4, 0), (4, 0)]) dX12_payoff_56 rfl rfl rfl (o3 c1).2 rfl ?_
    refine q_goto (tgt := 38) dX12_payoff_59 (by decide) ?_
    exact l4 c1
theorem bkX12_payoff_73 {b : Int} {mem : qm} {Q : Int → qm → Prop}
    {v1 v2 : Int}
    (l1 : (mem 188 42) ≤ v2 → v1 ≠ 0 → q_At yX12_payoff cX12_payoff 6 (some .int) 3 0 0 (qK (q_rb b) Q) 242 [(2, 188), (0, v1), (0, (-1)), (0, 0), (4, 0), (4, 0)] [] (q_sh0, q_rb b, mem))
    (l2 : (mem 188 42) ≤ v2 → v1 = 0 → Q (-3) mem)
    (l3 : v2 < (mem 188 42) → v1 = 0 → v1 ≠ 0 → q_At yX12_payoff cX12_payoff 6 (some .int) 3 0 0 (qK (q_rb b) Q) 242 [(2, 188), (0, v1), (0, (-1)), (0, 0), (4, 0), (4, 0)] [] (q_sh0, q_rb b, mem))
    (l4 : v2 < (mem 188 42) → v1 = 0 → v1 = 0 → Q (-3) mem)
    (l5 : v2 < (mem 188 42) → v1 ≠ 0 → q_At yX12_payoff cX12_payoff 6 (some .int) 3 0 0 (qK (q_rb b) Q) 87 [(2, 188), (0, v1), (0, v2), (0, 0), (4, 0), (4, 0)] [] (q_sh0, q_rb b, mem)) :
    q_At yX12_payoff cX12_payoff 6 (some .int) 3 0 0 (qK (q_rb b) Q) 73 [(2, 188), (0, v1), (0, v2), (4, 0), (4, 0), (4, 0)] [] (q_sh0, q_rb b, mem) := by
  refine q_iload_n dX12_payoff_73 rfl rfl ?_
  refine q_aload_n dX12_payoff_74 rfl rfl ?_
  refine qx_getI (ci := 12) (k := 42) (v := (mem 188 42)) dX12_payoff_75 rfl rfl rfl tw1225 rfl qs188 rfl ?_
  refine qx_icmp_ge (tgt := 231) dX12_payoff_78 (by decide) (fun c1 => ?_) (fun c1 => ?_)
  · skip
    refine q_iload_n dX12_payoff_231 rfl rfl ?_
    refine qx_if_ne (tgt := 238) dX12_payoff_232 (by decide) (fun c2 => ?_) (fun c2 => ?_)
    · skip
      refine qx_iconst dX12_payoff_238 rfl rfl ?_
      refine qx_istore_n (L' := [(2, 188), (0, v1), (0, (-1)), (4, 0), (4, 0), (4, 0)]) dX12_payoff_239 rfl rfl rfl rfl ?_
      refine qx_iconst dX12_payoff_240 rfl rfl ?_
      refine qx_istore_n (L' := [(2, 188), (0, v1), (0, (-1)), (0, 0), (4, 0), (4, 0)]) dX12_payoff_241 rfl rfl rfl rfl ?_
      exact l1 c1 c2
    · skip
      refine qx_bipush dX12_payoff_235 rfl rfl ?_
      exact q_iret dX12_payoff_237 (qK_i (l2 c1 c2))
  · skip
    refine q_iload_n dX12_payoff_81 rfl rfl ?_
    refine qx_if_eq (tgt := 231) dX12_payoff_82 (by decide) (fun c3 => ?_) (fun c3 => ?_)
    · skip
      refine q_iload_n dX12_payoff_231 rfl rfl ?_
      refine qx_if_ne (tgt := 238) dX12_payoff_232 (by decide) (fun c4 => ?_) (fun c4 => ?_)
      · skip
        refine qx_iconst dX12_payoff_238 rfl rfl ?_
        refine qx_istore_n (L' := [(2, 188), (0, v1), (0, (-1)), (4, 0), (4, 0), (4, 0)]) dX12_payoff_239 rfl rfl rfl rfl ?_
        refine qx_iconst dX12_payoff_240 rfl rfl ?_
        refine qx_istore_n (L' := [(2, 188), (0, v1), (0, (-1)), (0, 0), (4, 0), (4, 0)]) dX12_payoff_241 rfl rfl rfl rfl ?_
        exact l3 c1 c3 c4
      · skip
        refine qx_bipush dX12_payoff_235 rfl rfl ?_
        exact q_iret dX12_payoff_237 (qK_i (l4 c1 c3 c4))
    · skip
      refine qx_iconst dX12_payoff_85 rfl rfl ?_
      refine qx_istore_n (L' := [(2, 188), (0, v1), (0, v2), (0, 0), (4, 0), (4, 0)]) dX12_payoff_86 rfl rfl rfl rfl ?_
      exact l5 c1 c3
theorem bkX12_payoff_87 {b : Int} {mem : qm} {Q : Int → qm → Prop}
    {v1 v2 v3 : Int}
    (o1 : (mem 188 0) ≤ v3 → q_in32 (v2 + 1))
    (l2 : (mem 188 0) ≤ v3 → q_At yX12_payoff cX12_payoff 6 (some .int) 3 0 0 (qK (q_rb b) Q) 73 [(2, 188), (0, v1), (0, (v2 + 1)), (4, 0), (4, 0), (4, 0)] [] (q_sh0, q_rb b, mem))
    (l3 : v3 < (mem 188 0) → q_At yX12_payoff cX12_payoff 6 (some .int) 3 0 0 (qK (q_rb b) Q) 98 [(2, 188), (0, v1), (0, v2), (0, v3), (0, 0), (4, 0)] [] (q_sh0, q_rb b, mem)) :
    q_At yX12_payoff cX12_payoff 6 (some .int) 3 0 0 (qK (q_rb b) Q) 87 [(2, 188), (0, v1), (0, v2), (0, v3), (4, 0), (4, 0)] [] (q_sh0, q_rb b, mem) := by
  refine q_iload_n dX12_payoff_87 rfl rfl ?_
  refine q_aload_n dX12_payoff_88 rfl rfl ?_
  refine qx_getI (ci := 12) (k := 0) (v := (mem 188 0)) dX12_payoff_89 rfl rfl rfl tw1183 rfl qs188 rfl ?_
  refine qx_icmp_ge (tgt := 225) dX12_payoff_92 (by decide) (fun c1 => ?_) (fun c1 => ?_)
  · skip
    refine qx_iinc (L' := [(2, 188), (0, v1), (0, (v2 + 1)), (0, v3), (4, 0), (4, 0)]) dX12_payoff_225 rfl rfl rfl (o1 c1) rfl ?_
    refine q_goto (tgt := 73) dX12_payoff_228 (by decide) ?_
    refine q_kill (L' := [(2, 188), (0, v1), (0, (v2 + 1)), (4, 0), (4, 0), (4, 0)]) 3 rfl ?_
    exact l2 c1
  · skip
    refine qx_iconst dX12_payoff_95 rfl rfl ?_
    refine qx_istore (L' := [(2, 188), (0, v1), (0, v2), (0, v3), (0, 0), (4, 0)]) dX12_payoff_96 rfl rfl rfl ?_
    exact l3 c1
theorem bkX12_payoff_98 {b : Int} {mem : qm} {Q : Int → qm → Prop}
    {v1 v2 v3 v4 : Int}
    (o1 : (mem 188 0) ≤ v4 → q_in32 (v3 + 1))
    (l2 : (mem 188 0) ≤ v4 → q_At yX12_payoff cX12_payoff 6 (some .int) 3 0 0 (qK (q_rb b) Q) 87 [(2, 188), (0, v1), (0, v2), (0, (v3 + 1)), (4, 0), (4, 0)] [] (q_sh0, q_rb b, mem))
    (o3 : v4 < (mem 188 0) → v1 = 0 → q_in32 (v3 + 1))
    (l4 : v4 < (mem 188 0) → v1 = 0 → q_At yX12_payoff cX12_payoff 6 (some .int) 3 0 0 (qK (q_rb b) Q) 87 [(2, 188), (0, v1), (0, v2), (0, (v3 + 1)), (4, 0), (4, 0)] [] (q_sh0, q_rb b, mem))
    {P3 : Int → qm → Prop}
    (l5 : v4 < (mem 188 0) → v1 ≠ 0 → q_Ev yX12_load cX12_load 3 none 1 0 0 [(2, 188), (0, v2)] (q_sh0, q_rb b, mem) (qK (q_rb b) (P3)))
    {P5 : Int → qm → Int → qm → Prop}
    (l6 : v4 < (mem 188 0) → v1 ≠ 0 → ∀ (r3 : Int), ∀ (m3 : qm), P3 r3 m3 → q_in32 r3 → v3 ≠ v4 → q_Ev yX12_owedBetween cX12_owedBetween 4 (some .int) 1 0 0 [(2, 188), (0, v3), (0, v4)] (q_sh0, q_rb b, m3) (qK (q_rb b) (P5 r3 m3)))
    (o7 : v4 < (mem 188 0) → v1 ≠ 0 → ∀ (r3 : Int), ∀ (m3 : qm), P3 r3 m3 → q_in32 r3 → v3 ≠ v4 → ∀ (r5 : Int), ∀ (m5 : qm), P5 r3 m3 r5 m5 → q_in32 r5 → r5 ≠ 0 → (0 ≤ v3 ∧ v3 < 9) ∧ q_in32 ((m5 207 v3) - r5) ∧ (0 ≤ v4 ∧ v4 < 9) ∧ q_in32 (((q_up m5 207 v3 ((m5 207 v3) - r5)) 207 v4) + r5) ∧ q_in32 (6 * (m5 192 v3)) ∧ q_in32 ((6 * (m5 192 v3)) + (m5 192 v4)) ∧ (0 ≤ ((6 * (m5 192 v3)) + (m5 192 v4)) ∧ ((6 * (m5 192 v3)) + (m5 192 v4)) < 36) ∧ q_in32 ((m5 216 ((6 * (m5 192 v3)) + (m5 192 v4))) - r5) ∧ q_in32 (1000 * v3) ∧ q_in32 (100 * v4) ∧ q_in32 ((1000 * v3) + (100 * v4)) ∧ q_in32 (((1000 * v3) + (100 * v4)) + r5))
    {P7 : Int → qm → Int → qm → Int → qm → Prop}
    (l8 : v4 < (mem 188 0) → v1 ≠ 0 → ∀ (r3 : Int), ∀ (m3 : qm), P3 r3 m3 → q_in32 r3 → v3 ≠ v4 → ∀ (r5 : Int), ∀ (m5 : qm), P5 r3 m3 r5 m5 → q_in32 r5 → r5 ≠ 0 → q_Ev yX12_addState cX12_addState 8 (some .boolean) 2 0 0 [(2, 188), (0, v2), (0, (((1000 * v3) + (100 * v4)) + r5))] (q_sh0, q_rb b, (q_up (q_up (q_up m5 207 v3 ((m5 207 v3) - r5)) 207 v4 (((q_up m5 207 v3 ((m5 207 v3) - r5)) 207 v4) + r5)) 216 ((6 * (m5 192 v3)) + (m5 192 v4)) ((m5 216 ((6 * (m5 192 v3)) + (m5 192 v4))) - r5))) (qK (q_rb b) (P7 r3 m3 r5 m5)))
    (o9 : v4 < (mem 188 0) → v1 ≠ 0 → ∀ (r3 : Int), ∀ (m3 : qm), P3 r3 m3 → q_in32 r3 → v3 ≠ v4 → ∀ (r5 : Int), ∀ (m5 : qm), P5 r3 m3 r5 m5 → q_in32 r5 → r5 ≠ 0 → ∀ (r7 : Int), ∀ (m7 : qm), P7 r3 m3 r5 m5 r7 m7 → q_in32 r7 → q_in32 (v4 + 1))
    (l10 : v4 < (mem 188 0) → v1 ≠ 0 → ∀ (r3 : Int), ∀ (m3 : qm), P3 r3 m3 → q_in32 r3 → v3 ≠ v4 → ∀ (r5 : Int), ∀ (m5 : qm), P5 r3 m3 r5 m5 → q_in32 r5 → r5 ≠ 0 → ∀ (r7 : Int), ∀ (m7 : qm), P7 r3 m3 r5 m5 r7 m7 → q_in32 r7 → q_At yX12_payoff cX12_payoff 6 (some .int) 3 0 0 (qK (q_rb b) Q) 98 [(2, 188), (0, r7), (0, v2), (0, v3), (0, (v4 + 1)), (4, 0)] [] (q_sh0, q_rb b, m7))
    (o11 : v4 < (mem 188 0) → v1 ≠ 0 → ∀ (r3 : Int), ∀ (m3 : qm), P3 r3 m3 → q_in32 r3 → v3 ≠ v4 → ∀ (r5 : Int), ∀ (m5 : qm), P5 r3 m3 r5 m5 → q_in32 r5 → r5 = 0 → q_in32 (v4 + 1))
    (l12 : v4 < (mem 188 0) → v1 ≠ 0 → ∀ (r3 : Int), ∀ (m3 : qm), P3 r3 m3 → q_in32 r3 → v3 ≠ v4 → ∀ (r5 : Int), ∀ (m5 : qm), P5 r3 m3 r5 m5 → q_in32 r5 → r5 = 0 → q_At yX12_payoff cX12_payoff 6 (some .int) 3 0 0 (qK (q_rb b) Q) 98 [(2, 188), (0, v1), (0, v2), (0, v3), (0, (v4 + 1)), (4, 0)] [] (q_sh0, q_rb b, m5))
    (o13 : v4 < (mem 188 0) → v1 ≠ 0 → ∀ (r3 : Int), ∀ (m3 : qm), P3 r3 m3 → q_in32 r3 → v3 = v4 → q_in32 (v4 + 1))
    (l14 : v4 < (mem 188 0) → v1 ≠ 0 → ∀ (r3 : Int), ∀ (m3 : qm), P3 r3 m3 → q_in32 r3 → v3 = v4 → q_At yX12_payoff cX12_payoff 6 (some .int) 3 0 0 (qK (q_rb b) Q) 98 [(2, 188), (0, v1), (0, v2), (0, v3), (0, (v4 + 1)), (4, 0)] [] (q_sh0, q_rb b, m3)) :
    q_At yX12_payoff cX12_payoff 6 (some .int) 3 0 0 (qK (q_rb b) Q) 98 [(2, 188), (0, v1), (0, v2), (0, v3), (0, v4), (4, 0)] [] (q_sh0, q_rb b, mem) := by
  refine q_iload dX12_payoff_98 rfl ?_
  refine q_aload_n dX12_payoff_100 rfl rfl ?_
  refine qx_getI (ci := 12) (k := 0) (v := (mem 188 0)) dX12_payoff_101 rfl rfl rfl tw1183 rfl qs188 rfl ?_
  refine qx_icmp_ge (tgt := 219) dX12_payoff_104 (by decide) (fun c1 => ?_) (fun c1 => ?_)
  · skip
    refine qx_iinc (L' := [(2, 188), (0, v1), (0, v2), (0, (v3 + 1)), (0, v4), (4, 0)]) dX12_payoff_219 rfl rfl rfl (o1 c1) rfl ?_
    refine q_goto (tgt := 87) dX12_payoff_222 (by decide) ?_
    refine q_kill (L' := [(2, 188), (0, v1), (0, v2), (0, (v3 + 1)), (4, 0), (4, 0)]) 4 rfl ?_
    exact l2 c1
  · skip
    refine q_iload_n dX12_payoff_107 rfl rfl ?_
    refine qx_if_eq (tgt := 219) dX12_payoff_108 (by decide) (fun c2 => ?_) (fun c2 => ?_)
    · skip
      refine qx_iinc (L' := [(2, 188), (0, v1), (0, v2), (0, (v3 + 1)), (0, v4), (4, 0)]) dX12_payoff_219 rfl rfl rfl (o3 c1 c2) rfl ?_
      refine q_goto (tgt := 87) dX12_payoff_222 (by decide) ?_
      refine q_kill (L' := [(2, 188), (0, v1), (0, v2), (0, (v3 + 1)), (4, 0), (4, 0)]) 4 rfl ?_
      exact l4 c1 c2
    · skip
      refine q_aload_n dX12_payoff_111 rfl rfl ?_
      refine q_iload_n dX12_payoff_112 rfl rfl ?_
      refine qx_invV (ci := 12) [(0, v2)] [(0, v2), (2, 188)] rfl qM_X12_load dX12_payoff_113 tw1631 rfl qs188 rfl rfl rfl rfl (l5 c1 c2) (fun r3 m3 p3 q3 => ?_)
      refine q_iload_n dX12_payoff_116 rfl rfl ?_
      refine q_iload dX12_payoff_117 rfl ?_
      refine qx_icmp_ne (tgt := 126) dX12_payoff_119 (by decide) (fun c4 => ?_) (fun c4 => ?_)
      · skip
        refine q_aload_n dX12_payoff_126 rfl rfl ?_
        refine q_iload_n dX12_payoff_127 rfl rfl ?_
        refine q_iload dX12_payoff_128 rfl ?_
        refine qx_invV (ci := 12) [(0, v3), (0, v4)] [(0, v4), (0, v3), (2, 188)] rfl qM_X12_owedBetween dX12_payoff_130 tw1635 rfl qs188 rfl rfl rfl rfl (l6 c1 c2 r3 m3 p3 q3 c4) (fun r5 m5 p5 q5 => ?_)
        refine qx_istore (L' := [(2, 188), (0, v1), (0, v2), (0, v3), (0, v4), (0, r5)]) dX12_payoff_133 rfl rfl rfl ?_
        refine q_iload dX12_payoff_135 rfl ?_
        refine qx_if_ne (tgt := 143) dX12_payoff_137 (by decide) (fun c6 => ?_) (fun c6 => ?_)
        · skip
          refine q_aload_n dX12_payoff_143 rfl rfl ?_
          refine q_getR (ci := 12) (k := 33) dX12_payoff_144 rfl (by decide) rfl tw1216 (by decide) qs188 qw188_33 (by decide) ?_
          refine q_iload_n dX12_payoff_147 rfl rfl ?_
          refine q_dup2 dX12_payoff_148 (fun h => by cases h) (fun h => by cases h) ?_
          refine qx_iald (v := (m5 207 v3)) dX12_payoff_149 qs207 (o7 c1 c2 r3 m3 p3 q3 c4 r5 m5 p5 q5 c6).1 rfl ?_
          refine q_iload dX12_payoff_150 rfl ?_
          refine qx_isub dX12_payoff_152 (o7 c1 c2 r3 m3 p3 q3 c4 r5 m5 p5 q5 c6).2.1 ?_
          refine q_iast dX12_payoff_153 qs207 ((o7 c1 c2 r3 m3 p3 q3 c4 r5 m5 p5 q5 c6).1).1 ((o7 c1 c2 r3 m3 p3 q3 c4 r5 m5 p5 q5 c6).1).2 ?_
          refine q_aload_n dX12_payoff_154 rfl rfl ?_
          refine q_getR (ci := 12) (k := 33) dX12_payoff_155 rfl (by decide) rfl tw1216 (by decide) qs188 qw188_33 (by decide) ?_
          refine q_iload dX12_payoff_158 rfl ?_
          refine q_dup2 dX12_payoff_160 (fun h => by cases h) (fun h => by cases h) ?_
          refine qx_iald (v := ((q_up m5 207 v3 ((m5 207 v3) - r5)) 207 v4)) dX12_payoff_161 qs207 (o7 c1 c2 r3 m3 p3 q3 c4 r5 m5 p5 q5 c6).2.2.1 rfl ?_
          refine q_iload dX12_payoff_162 rfl ?_
          refine qx_iadd dX12_payoff_164 (o7 c1 c2 r3 m3 p3 q3 c4 r5 m5 p5 q5 c6).2.2.2.1 ?_
          refine q_iast dX12_payoff_165 qs207 ((o7 c1 c2 r3 m3 p3 q3 c4 r5 m5 p5 q5 c6).2.2.1).1 ((o7 c1 c2 r3 m3 p3 q3 c4 r5 m5 p5 q5 c6).2.2.1).2 ?_
          refine q_aload_n dX12_payoff_166 rfl rfl ?_
          refine q_getR (ci := 12) (k := 44) dX12_payoff_167 rfl (by decide) rfl tw1227 (by decide) qs188 qw188_44 (by decide) ?_
          refine qx_bipush dX12_payoff_170 rfl rfl ?_
          refine q_aload_n dX12_payoff_172 rfl rfl ?_
          refine q_getR (ci := 12) (k := 4) dX12_payoff_173 rfl (by decide) rfl tw1187 (by decide) qs188 qw188_4 (by decide) ?_
          refine q_iload_n dX12_payoff_176 rfl rfl ?_
          refine qx_iald (v := (m5 192 v3)) dX12_payoff_177 qs192 (o7 c1 c2 r3 m3 p3 q3 c4 r5 m5 p5 q5 c6).1 ((q_up_c (by decide)).trans (q_up_c (by decide))) ?_
          refine qx_imul dX12_payoff_178 (o7 c1 c2 r3 m3 p3 q3 c4 r5 m5 p5 q5 c6).2.2.2.2.1 ?_
          refine q_aload_n dX12_payoff_179 rfl rfl ?_
          refine q_getR (ci := 12) (k := 4) dX12_payoff_180 rfl (by decide) rfl tw1187 (by decide) qs188 qw188_4 (by decide) ?_
          refine q_iload dX12_payoff_183 rfl ?_
          refine qx_iald (v := (m5 192 v4)) dX12_payoff_185 qs192 (o7 c1 c2 r3 m3 p3 q3 c4 r5 m5 p5 q5 c6).2.2.1 ((q_up_c (by decide)).trans (q_up_c (by decide))) ?_
          refine qx_iadd dX12_payoff_186 (o7 c1 c2 r3 m3 p3 q3 c4 r5 m5 p5 q5 c6).2.2.2.2.2.1 ?_
          refine q_dup2 dX12_payoff_187 (fun h => by cases h) (fun h => by cases h) ?_
          refine qx_iald (v := (m5 216 ((6 * (m5 192 v3)) + (m5 192 v4)))) dX12_payoff_188 qs216 (o7 c1 c2 r3 m3 p3 q3 c4 r5 m5 p5 q5 c6).2.2.2.2.2.2.1 ((q_up_c (by decide)).trans (q_up_c (by decide))) ?_
          refine q_iload dX12_payoff_189 rfl ?_
          refine qx_isub dX12_payoff_191 (o7 c1 c2 r3 m3 p3 q3 c4 r5 m5 p5 q5 c6).2.2.2.2.2.2.2.1 ?_
          refine q_iast dX12_payoff_192 qs216 ((o7 c1 c2 r3 m3 p3 q3 c4 r5 m5 p5 q5 c6).2.2.2.2.2.2.1).1 ((o7 c1 c2 r3 m3 p3 q3 c4 r5 m5 p5 q5 c6).2.2.2.2.2.2.1).2 ?_
          refine q_aload_n dX12_payoff_193 rfl rfl ?_
          refine q_iload_n dX12_payoff_194 rfl rfl ?_
          refine qx_sipush dX12_payoff_195 rfl rfl ?_
          refine q_iload_n dX12_payoff_198 rfl rfl ?_
          refine qx_imul dX12_payoff_199 (o7 c1 c2 r3 m3 p3 q3 c4 r5 m5 p5 q5 c6).2.2.2.2.2.2.2.2.1 ?_
          refine qx_bipush dX12_payoff_200 rfl rfl ?_
          refine q_iload dX12_payoff_202 rfl ?_
          refine qx_imul dX12_payoff_204 (o7 c1 c2 r3 m3 p3 q3 c4 r5 m5 p5 q5 c6).2.2.2.2.2.2.2.2.2.1 ?_
          refine qx_iadd dX12_payoff_205 (o7 c1 c2 r3 m3 p3 q3 c4 r5 m5 p5 q5 c6).2.2.2.2.2.2.2.2.2.2.1 ?_
          refine q_iload dX12_payoff_206 rfl ?_
          refine qx_iadd dX12_payoff_208 (o7 c1 c2 r3 m3 p3 q3 c4 r5 m5 p5 q5 c6).2.2.2.2.2.2.2.2.2.2.2 ?_
          refine qx_invV (ci := 12) [(0, v2), (0, (((1000 * v3) + (100 * v4)) + r5))] [(0, (((1000 * v3) + (100 * v4)) + r5)), (0, v2), (2, 188)] rfl qM_X12_addState dX12_payoff_209 tw1623 rfl qs188 rfl rfl rfl rfl (l8 c1 c2 r3 m3 p3 q3 c4 r5 m5 p5 q5 c6) (fun r7 m7 p7 q7 => ?_)
          refine qx_istore_n (L' := [(2, 188), (0, r7), (0, v2), (0, v3), (0, v4), (0, r5)]) dX12_payoff_212 rfl rfl rfl rfl ?_
          refine qx_iinc (L' := [(2, 188), (0, r7), (0, v2), (0, v3), (0, (v4 + 1)), (0, r5)]) dX12_payoff_213 rfl rfl rfl (o9 c1 c2 r3 m3 p3 q3 c4 r5 m5 p5 q5 c6 r7 m7 p7 q7) rfl ?_
          refine q_goto (tgt := 98) dX12_payoff_216 (by decide) ?_
          refine q_kill (L' := [(2, 188), (0, r7), (0, v2), (0, v3), (0, (v4 + 1)), (4, 0)]) 5 rfl ?_
          exact l10 c1 c2 r3 m3 p3 q3 c4 r5 m5 p5 q5 c6 r7 m7 p7 q7
        · skip
          refine q_goto (tgt := 213) dX12_payoff_140 (by decide) ?_
          refine qx_iinc (L' := [(2, 188), (0, v1), (0, v2), (0, v3), (0, (v4 + 1)), (0, r5)]) dX12_payoff_213 rfl rfl rfl (o11 c1 c2 r3 m3 p3 q3 c4 r5 m5 p5 q5 c6) rfl ?_
          refine q_goto (tgt := 98) dX12_payoff_216 (by decide) ?_
          refine q_kill (L' := [(2, 188), (0, v1), (0, v2), (0, v3), (0, (v4 + 1)), (4, 0)]) 5 rfl ?_
          exact l12 c1 c2 r3 m3 p3 q3 c4 r5 m5 p5 q5 c6
      · skip
        refine qx_iconst dX12_payoff_122 rfl rfl ?_
        refine q_goto (tgt := 133) dX12_payoff_123 (by decide) ?_
        refine qx_istore (L' := [(2, 188), (0, v1), (0, v2), (0, v3), (0, v4), (0, 0)]) dX12_payoff_133 rfl rfl rfl ?_
        refine q_iload dX12_payoff_135 rfl ?_
        refine qx_if_ne (tgt := 143) dX12_payoff_137 (by decide) (fun z => absurd z (by decide)) (fun _ => ?_)
        refine q_goto (tgt := 213) dX12_payoff_140 (by decide) ?_
        refine qx_iinc (L' := [(2, 188), (0, v1), (0, v2), (0, v3), (0, (v4 + 1)), (0, 0)]) dX12_payoff_213 rfl rfl rfl (o13 c1 c2 r3 m3 p3 q3 c4) rfl ?_
        refine q_goto (tgt := 98) dX12_payoff_216 (by decide) ?_
        refine q_kill (L' := [(2, 188), (0, v1), (0, v2), (0, v3), (0, (v4 + 1)), (4, 0)]) 5 rfl ?_
        exact l14 c1 c2 r3 m3 p3 q3 c4
theorem bkX12_payoff_242 {b : Int} {mem : qm} {Q : Int → qm → Prop}
    {v1 v2 v3 : Int}
    (o1 : (mem 188 42) ≤ v3 → v2 ≠ (-1) → (0 ≤ v2 ∧ v2 < 3000) ∧ q_in32 ((mem 212 v2) - 1))
    (l2 : (mem 188 42) ≤ v3 → v2 ≠ (-1) → q_At yX12_payoff cX12_payoff 6 (some .int) 3 0 0 (qK (q_rb b) Q) 299 [(2, 188), (0, v1), (0, v2), (0, v2), (0, ((mem 212 v2) - 1)), (4, 0)] [] (q_sh0, q_rb b, mem))
    (l3 : (mem 188 42) ≤ v3 → v2 = (-1) → Q (-2) mem)
    (o4 : v3 < (mem 188 42) → v2 ≠ (-1) → v2 ≠ (-1) → (0 ≤ v2 ∧ v2 < 3000) ∧ q_in32 ((mem 212 v2) - 1))
    (l5 : v3 < (mem 188 42) → v2 ≠ (-1) → v2 ≠ (-1) → q_At yX12_payoff cX12_payoff 6 (some .int) 3 0 0 (qK (q_rb b) Q) 299 [(2, 188), (0, v1), (0, v2), (0, v2), (0, ((mem 212 v2) - 1)), (4, 0)] [] (q_sh0, q_rb b, mem))
    (l6 : v3 < (mem 188 42) → v2 ≠ (-1) → v2 = (-1) → Q (-2) mem)
    {P5 : Int → qm → Prop}
    (l7 : v3 < (mem 188 42) → v2 = (-1) → q_Ev yX12_load cX12_load 3 none 1 0 0 [(2, 188), (0, v3)] (q_sh0, q_rb b, mem) (qK (q_rb b) (P5)))
    {P6 : Int → qm → Int → qm → Prop}
    (l8 : v3 < (mem 188 42) → v2 = (-1) → ∀ (r5 : Int), ∀ (m5 : qm), P5 r5 m5 → q_in32 r5 → q_Ev yX12_isPaid cX12_isPaid 5 (some .boolean) 1 0 0 [(2, 188)] (q_sh0, q_rb b, m5) (qK (q_rb b) (P6 r5 m5)))
    (o9 : v3 < (mem 188 42) → v2 = (-1) → ∀ (r5 : Int), ∀ (m5 : qm), P5 r5 m5 → q_in32 r5 → ∀ (r6 : Int), ∀ (m6 : qm), P6 r5 m5 r6 m6 → q_in32 r6 → r6 = 0 → q_in32 (v3 + 1))
    (l10 : v3 < (mem 188 42) → v2 = (-1) → ∀ (r5 : Int), ∀ (m5 : qm), P5 r5 m5 → q_in32 r5 → ∀ (r6 : Int), ∀ (m6 : qm), P6 r5 m5 r6 m6 → q_in32 r6 → r6 = 0 → q_At yX12_payoff cX12_payoff 6 (some .int) 3 0 0 (qK (q_rb b) Q) 242 [(2, 188), (0, v1), (0, (-1)), (0, (v3 + 1)), (4, 0), (4, 0)] [] (q_sh0, q_rb b, m6))
    (o11 : v3 < (mem 188 42) → v2 = (-1) → ∀ (r5 : Int), ∀ (m5 : qm), P5 r5 m5 → q_in32 r5 → ∀ (r6 : Int), ∀ (m6 : qm), P6 r5 m5 r6 m6 → q_in32 r6 → r6 ≠ 0 → q_in32 (v3 + 1))
    (l12 : v3 < (mem 188 42) → v2 = (-1) → ∀ (r5 : Int), ∀ (m5 : qm), P5 r5 m5 → q_in32 r5 → ∀ (r6 : Int), ∀ (m6 : qm), P6 r5 m5 r6 m6 → q_in32 r6 → r6 ≠ 0 → q_At yX12_payoff cX12_payoff 6 (some .int) 3 0 0 (qK (q_rb b) Q) 242 [(2, 188), (0, v1), (0, v3), (0, (v3 + 1)), (4, 0), (4, 0)] [] (q_sh0, q_rb b, m6)) :
    q_At yX12_payoff cX12_payoff 6 (some .int) 3 0 0 (qK (q_rb b) Q) 242 [(2, 188), (0, v1), (0, v2), (0, v3), (4, 0), (4, 0)] [] (q_sh0, q_rb b, mem) := by
  refine q_iload_n dX12_payoff_242 rfl rfl ?_
  refine q_aload_n dX12_payoff_243 rfl rfl ?_
  refine qx_getI (ci := 12) (k := 42) (v := (mem 188 42)) dX12_payoff_244 rfl rfl rfl tw1225 rfl qs188 rfl ?_
  refine qx_icmp_ge (tgt := 279) dX12_payoff_247 (by decide) (fun c1 => ?_) (fun c1 => ?_)
  · skip
    refine q_iload_n dX12_payoff_279 rfl rfl ?_
    refine qx_iconst dX12_payoff_280 rfl rfl ?_
    refine qx_icmp_ne (tgt := 287) dX12_payoff_281 (by decide) (fun c2 => ?_) (fun c2 => ?_)
    · skip
      refine q_iload_n dX12_payoff_287 rfl rfl ?_
      refine qx_istore_n (L' := [(2, 188), (0, v1), (0, v2), (0, v2), (4, 0), (4, 0)]) dX12_payoff_288 rfl rfl rfl rfl ?_
      refine q_aload_n dX12_payoff_289 rfl rfl ?_
      refine q_getR (ci := 12) (k := 39) dX12_payoff_290 rfl (by decide) rfl tw1222 (by decide) qs188 qw188_39 (by decide) ?_
      refine q_iload_n dX12_payoff_293 rfl rfl ?_
      refine qx_iald (v := (mem 212 v2)) dX12_payoff_294 qs212 (o1 c1 c2).1 rfl ?_
      refine qx_iconst dX12_payoff_295 rfl rfl ?_
      refine qx_isub dX12_payoff_296 (o1 c1 c2).2 ?_
      refine qx_istore (L' := [(2, 188), (0, v1), (0, v2), (0, v2), (0, ((mem 212 v2) - 1)), (4, 0)]) dX12_payoff_297 rfl rfl rfl ?_
      exact l2 c1 c2
    · skip
      refine qx_bipush dX12_payoff_284 rfl rfl ?_
      exact q_iret dX12_payoff_286 (qK_i (l3 c1 c2))
  · skip
    refine q_iload_n dX12_payoff_250 rfl rfl ?_
    refine qx_iconst dX12_payoff_251 rfl rfl ?_
    refine qx_icmp_ne (tgt := 279) dX12_payoff_252 (by decide) (fun c3 => ?_) (fun c3 => ?_)
    · skip
      refine q_iload_n dX12_payoff_279 rfl rfl ?_
      refine qx_iconst dX12_payoff_280 rfl rfl ?_
      refine qx_icmp_ne (tgt := 287) dX12_payoff_281 (by decide) (fun c4 => ?_) (fun c4 => ?_)
      · skip
        refine q_iload_n dX12_payoff_287 rfl rfl ?_
        refine qx_istore_n (L' := [(2, 188), (0, v1), (0, v2), (0, v2), (4, 0), (4, 0)]) dX12_payoff_288 rfl rfl rfl rfl ?_
        refine q_aload_n dX12_payoff_289 rfl rfl ?_
        refine q_getR (ci := 12) (k := 39) dX12_payoff_290 rfl (by decide) rfl tw1222 (by decide) qs188 qw188_39 (by decide) ?_
        refine q_iload_n dX12_payoff_293 rfl rfl ?_
        refine qx_iald (v := (mem 212 v2)) dX12_payoff_294 qs212 (o4 c1 c3 c4).1 rfl ?_
        refine qx_iconst dX12_payoff_295 rfl rfl ?_
        refine qx_isub dX12_payoff_296 (o4 c1 c3 c4).2 ?_
        refine qx_istore (L' := [(2, 188), (0, v1), (0, v2), (0, v2), (0, ((mem 212 v2) - 1)), (4, 0)]) dX12_payoff_297 rfl rfl rfl ?_
        exact l5 c1 c3 c4
      · skip
        refine qx_bipush dX12_payoff_284 rfl rfl ?_
        exact q_iret dX12_payoff_286 (qK_i (l6 c1 c3 c4))
    · skip
      refine q_aload_n dX12_payoff_255 rfl rfl ?_
      refine q_iload_n dX12_payoff_256 rfl rfl ?_
      refine qx_invV (ci := 12) [(0, v3)] [(0, v3), (2, 188)] rfl qM_X12_load dX12_payoff_257 tw1631 rfl qs188 rfl rfl rfl rfl (l7 c1 c3) (fun r5 m5 p5 q5 => ?_)
      refine q_aload_n dX12_payoff_260 rfl rfl ?_
      refine qx_invV (ci := 12) [] [(2, 188)] rfl qM_X12_isPaid dX12_payoff_261 tw1639 rfl qs188 rfl rfl rfl rfl (l8 c1 c3 r5 m5 p5 q5) (fun r6 m6 p6 q6 => ?_)
      refine qx_if_eq (tgt := 271) dX12_payoff_264 (by decide) (fun c7 => ?_) (fun c7 => ?_)
      · skip
        refine qx_iconst dX12_payoff_271 rfl rfl ?_
        refine qx_istore_n (L' := [(2, 188), (0, v1), (0, (-1)), (0, v3), (4, 0), (4, 0)]) dX12_payoff_272 rfl rfl rfl rfl ?_
        refine qx_iinc (L' := [(2, 188), (0, v1), (0, (-1)), (0, (v3 + 1)), (4, 0), (4, 0)]) dX12_payoff_273 rfl rfl rfl (o9 c1 c3 r5 m5 p5 q5 r6 m6 p6 q6 c7) rfl ?_
        refine q_goto (tgt := 242) dX12_payoff_276 (by decide) ?_
        exact l10 c1 c3 r5 m5 p5 q5 r6 m6 p6 q6 c7
      · skip
        refine q_iload_n dX12_payoff_267 rfl rfl ?_
        refine q_goto (tgt := 272) dX12_payoff_268 (by decide) ?_
        refine qx_istore_n (L' := [(2, 188), (0, v1), (0, v3), (0, v3), (4, 0), (4, 0)]) dX12_payoff_272 rfl rfl rfl rfl ?_
        refine qx_iinc (L' := [(2, 188), (0, v1), (0, v3), (0, (v3 + 1)), (4, 0), (4, 0)]) dX12_payoff_273 rfl rfl rfl (o11 c1 c3 r5 m5 p5 q5 r6 m6 p6 q6 c7) rfl ?_
        refine q_goto (tgt := 242) dX12_payoff_276 (by decide) ?_
        exact l12 c1 c3 r5 m5 p5 q5 r6 m6 p6 q6 c7
theorem bkX12_payoff_299 {b : Int} {mem : qm} {Q : Int → qm → Prop}
    {v1 v2 v3 v4 : Int}
    (l1 : v4 < 0 → q_At yX12_payoff cX12_payoff 6 (some .int) 3 0 0 (qK (q_rb b) Q) 338 [(2, 188), (0, v1), (0, v2), (0, v3), (0, 0), (4, 0)] [] (q_sh0, q_rb b, (q_up mem 188 16 0)))
    (o2 : 0 ≤ v4 → (0 ≤ v3 ∧ v3 < 3000) ∧ (0 ≤ v4 ∧ v4 < 3000) ∧ q_in32 (v4 + (-1)))
    (l3 : 0 ≤ v4 → q_At yX12_payoff cX12_payoff 6 (some .int) 3 0 0 (qK (q_rb b) Q) 299 [(2, 188), (0, v1), (0, v2), (0, (mem 213 v3)), (0, (v4 + (-1))), (4, 0)] [] (q_sh0, q_rb b, (q_up mem 217 v4 (mem 214 v3)))) :
    q_At yX12_payoff cX12_payoff 6 (some .int) 3 0 0 (qK (q_rb b) Q) 299 [(2, 188), (0, v1), (0, v2), (0, v3), (0, v4), (4, 0)] [] (q_sh0, q_rb b, mem) := by
  refine q_iload dX12_payoff_299 rfl ?_
  refine qx_if_lt (tgt := 330) dX12_payoff_301 (by decide) (fun c1 => ?_) (fun c1 => ?_)
  · skip
    refine q_aload_n dX12_payoff_330 rfl rfl ?_
    refine qx_iconst dX12_payoff_331 rfl rfl ?_
    refine q_putI (ci := 12) (k := 16) (kI := 16) (ty := .int) dX12_payoff_332 rfl (by decide) rfl tw1199 rfl rfl rfl (fun _ => ⟨rfl, rfl⟩) qs188 ?_
    refine qx_iconst dX12_payoff_335 rfl rfl ?_
    refine qx_istore (L' := [(2, 188), (0, v1), (0, v2), (0, v3), (0, 0), (4, 0)]) dX12_payoff_336 rfl rfl rfl ?_
    exact l1 c1
  · skip
    refine q_aload_n dX12_payoff_304 rfl rfl ?_
    refine q_getR (ci := 12) (k := 45) dX12_payoff_305 rfl (by decide) rfl tw1228 (by decide) qs188 qw188_45 (by decide) ?_
    refine q_iload dX12_payoff_308 rfl ?_
    refine q_aload_n dX12_payoff_310 rfl rfl ?_
    refine q_getR (ci := 12) (k := 41) dX12_payoff_311 rfl (by decide) rfl tw1224 (by decide) qs188 qw188_41 (by decide) ?_
    refine q_iload_n dX12_payoff_314 rfl rfl ?_
    refine qx_iald (v := (mem 214 v3)) dX12_payoff_315 qs214 (o2 c1).1 rfl ?_
    refine q_iast dX12_payoff_316 qs217 ((o2 c1).2.1).1 ((o2 c1).2.1).2 ?_
    refine q_aload_n dX12_payoff_317 rfl rfl ?_
    refine q_getR (ci := 12) (k := 40) dX12_payoff_318 rfl (by decide) rfl tw1223 (by decide) qs188 qw188_40 (by decide) ?_
    refine q_iload_n dX12_payoff_321 rfl rfl ?_
    refine qx_iald (v := (mem 213 v3)) dX12_payoff_322 qs213 (o2 c1).1 (q_up_c (by decide)) ?_
    refine qx_istore_n (L' := [(2, 188), (0, v1), (0, v2), (0, (mem 213 v3)), (0, v4), (4, 0)]) dX12_payoff_323 rfl rfl rfl rfl ?_
    refine qx_iinc (L' := [(2, 188), (0, v1), (0, v2), (0, (mem 213 v3)), (0, (v4 + (-1))), (4, 0)]) dX12_payoff_324 rfl rfl rfl (o2 c1).2.2 rfl ?_
    refine q_goto (tgt := 299) dX12_payoff_327 (by decide) ?_
    exact l3 c1
theorem bkX12_payoff_338 {b : Int} {mem : qm} {Q : Int → qm → Prop}
    {v1 v2 v3 v4 : Int}
    (o1 : (0 ≤ v2 ∧ v2 < 3000))
    (l2 : (mem 212 v2) ≤ v4 → Q (mem 212 v2) mem)
    (l3 : v4 < (mem 212 v2) → 10 ≤ v4 → Q (mem 212 v2) mem)
    (o4 : v4 < (mem 212 v2) → v4 < 10 → (0 ≤ v4 ∧ v4 < 3000) ∧ (0 ≤ (mem 188 16) ∧ (mem 188 16) < 16) ∧ q_in32 (v4 + 1))
    (l5 : v4 < (mem 212 v2) → v4 < 10 → q_At yX12_payoff cX12_payoff 6 (some .int) 3 0 0 (qK (q_rb b) Q) 338 [(2, 188), (0, v1), (0, v2), (0, v3), (0, (v4 + 1)), (4, 0)] [] (q_sh0, q_rb b, (q_up (q_up mem 199 (mem 188 16) (mem 217 v4)) 188 16 ((mem 188 16) + 1)))) :
    q_At yX12_payoff cX12_payoff 6 (some .int) 3 0 0 (qK (q_rb b) Q) 338 [(2, 188), (0, v1), (0, v2), (0, v3), (0, v4), (4, 0)] [] (q_sh0, q_rb b, mem) := by
  refine q_iload dX12_payoff_338 rfl ?_
  refine q_aload_n dX12_payoff_340 rfl rfl ?_
  refine q_getR (ci := 12) (k := 39) dX12_payoff_341 rfl (by decide) rfl tw1222 (by decide) qs188 qw188_39 (by decide) ?_
  refine q_iload_n dX12_payoff_344 rfl rfl ?_
  refine qx_iald (v := (mem 212 v2)) dX12_payoff_345 qs212 (o1) rfl ?_
  refine qx_icmp_ge (tgt := 373) dX12_payoff_346 (by decide) (fun c1 => ?_) (fun c1 => ?_)
  · skip
    refine q_aload_n dX12_payoff_373 rfl rfl ?_
    refine q_getR (ci := 12) (k := 39) dX12_payoff_374 rfl (by decide) rfl tw1222 (by decide) qs188 qw188_39 (by decide) ?_
    refine q_iload_n dX12_payoff_377 rfl rfl ?_
    refine qx_iald (v := (mem 212 v2)) dX12_payoff_378 qs212 (o1) rfl ?_
    exact q_iret dX12_payoff_379 (qK_i (l2 c1))
  · skip
    refine q_iload dX12_payoff_349 rfl ?_
    refine qx_bipush dX12_payoff_351 rfl rfl ?_
    refine qx_icmp_ge (tgt := 373) dX12_payoff_353 (by decide) (fun c2 => ?_) (fun c2 => ?_)
    · skip
      refine q_aload_n dX12_payoff_373 rfl rfl ?_
      refine q_getR (ci := 12) (k := 39) dX12_payoff_374 rfl (by decide) rfl tw1222 (by decide) qs188 qw188_39 (by decide) ?_
      refine q_iload_n dX12_payoff_377 rfl rfl ?_
      refine qx_iald (v := (mem 212 v2)) dX12_payoff_378 qs212 (o1) rfl ?_
      exact q_iret dX12_payoff_379 (qK_i (l3 c1 c2))
    · skip
      refine q_aload_n dX12_payoff_356 rfl rfl ?_
      refine q_aload_n dX12_payoff_357 rfl rfl ?_
      refine q_getR (ci := 12) (k := 45) dX12_payoff_358 rfl (by decide) rfl tw1228 (by decide) qs188 qw188_45 (by decide) ?_
      refine q_iload dX12_payoff_361 rfl ?_
      refine qx_iald (v := (mem 217 v4)) dX12_payoff_363 qs217 (o4 c1 c2).1 rfl ?_
      refine qx_invV (ci := 12) [(0, (mem 217 v4))] [(0, (mem 217 v4)), (2, 188)] rfl qM_X12_tell dX12_payoff_364 tw1509 rfl qs188 rfl rfl rfl rfl (spX12_tell (o4 c1 c2).2.1) (fun r3 m3 p3 q3 => ?_)
      obtain rfl := p3
      refine qx_iinc (L' := [(2, 188), (0, v1), (0, v2), (0, v3), (0, (v4 + 1)), (4, 0)]) dX12_payoff_367 rfl rfl rfl (o4 c1 c2).2.2 rfl ?_
      refine q_goto (tgt := 338) dX12_payoff_370 (by decide) ?_
      exact l5 c1 c2
theorem dX12_addState_0 : decode cX12_addState 0 = .ok (.bipush 7, 2) := by decide +kernel
theorem dX12_addState_2 : decode cX12_addState 2 = .ok (.istore_n 3, 1) := by decide +kernel
theorem dX12_addState_3 : decode cX12_addState 3 = .ok (.iconst 0, 1) := by decide +kernel
theorem dX12_addState_4 : decode cX12_addState 4 = .ok (.istore 4, 2) := by decide +kernel
theorem dX12_addState_6 : decode cX12_addState 6 = .ok (.iload 4, 2) := by decide +kernel
theorem dX12_addState_8 : decode cX12_addState 8 = .ok (.aload_n 0, 1) := by decide +kernel
theorem dX12_addState_9 : decode cX12_addState 9 = .ok (.getfield 134, 3) := by decide +kernel
theorem dX12_addState_12 : decode cX12_addState 12 = .ok (.if_icmp .ge 22, 3) := by decide +kernel
theorem dX12_addState_15 : decode cX12_addState 15 = .ok (.bipush 31, 2) := by decide +kernel
theorem dX12_addState_17 : decode cX12_addState 17 = .ok (.iload_n 3, 1) := by decide +kernel
theorem dX12_addState_18 : decode cX12_addState 18 = .ok (.imul, 1) := by decide +kernel
theorem dX12_addState_19 : decode cX12_addState 19 = .ok (.aload_n 0, 1) := by decide +kernel
theorem dX12_addState_20 : decode cX12_addState 20 = .ok (.getfield 72, 3) := by decide +kernel
theorem dX12_addState_23 : decode cX12_addState 23 = .ok (.iload 4, 2) := by decide +kernel
theorem dX12_addState_25 : decode cX12_addState 25 = .ok (.iaload, 1) := by decide +kernel
theorem dX12_addState_26 : decode cX12_addState 26 = .ok (.iadd, 1) := by decide +kernel
theorem dX12_addState_27 : decode cX12_addState 27 = .ok (.istore_n 3, 1) := by decide +kernel
theorem dX12_addState_28 : decode cX12_addState 28 = .ok (.iinc 4 1, 3) := by decide +kernel
theorem dX12_addState_31 : decode cX12_addState 31 = .ok (.goto (-25), 3) := by decide +kernel
theorem dX12_addState_34 : decode cX12_addState 34 = .ok (.aload_n 0, 1) := by decide +kernel
theorem dX12_addState_35 : decode cX12_addState 35 = .ok (.getfield 100, 3) := by decide +kernel
theorem dX12_addState_38 : decode cX12_addState 38 = .ok (.astore 4, 2) := by decide +kernel
theorem dX12_addState_40 : decode cX12_addState 40 = .ok (.aload 4, 2) := by decide +kernel
theorem dX12_addState_42 : decode cX12_addState 42 = .ok (.arraylength, 1) := by decide +kernel
theorem dX12_addState_43 : decode cX12_addState 43 = .ok (.istore 5, 2) := by decide +kernel
theorem dX12_addState_45 : decode cX12_addState 45 = .ok (.iconst 0, 1) := by decide +kernel
theorem dX12_addState_46 : decode cX12_addState 46 = .ok (.istore 6, 2) := by decide +kernel
theorem dX12_addState_48 : decode cX12_addState 48 = .ok (.iload 6, 2) := by decide +kernel
theorem dX12_addState_50 : decode cX12_addState 50 = .ok (.iload 5, 2) := by decide +kernel
theorem dX12_addState_52 : decode cX12_addState 52 = .ok (.if_icmp .ge 24, 3) := by decide +kernel
theorem dX12_addState_55 : decode cX12_addState 55 = .ok (.aload 4, 2) := by decide +kernel
theorem dX12_addState_57 : decode cX12_addState 57 = .ok (.iload 6, 2) := by decide +kernel
theorem dX12_addState_59 : decode cX12_addState 59 = .ok (.iaload, 1) := by decide +kernel
theorem dX12_addState_60 : decode cX12_addState 60 = .ok (.istore 7, 2) := by decide +kernel
theorem dX12_addState_62 : decode cX12_addState 62 = .ok (.bipush 31, 2) := by decide +kernel
theorem dX12_addState_64 : decode cX12_addState 64 = .ok (.iload_n 3, 1) := by decide +kernel
theorem dX12_addState_65 : decode cX12_addState 65 = .ok (.imul, 1) := by decide +kernel
theorem dX12_addState_66 : decode cX12_addState 66 = .ok (.iload 7, 2) := by decide +kernel
theorem dX12_addState_68 : decode cX12_addState 68 = .ok (.iadd, 1) := by decide +kernel
theorem dX12_addState_69 : decode cX12_addState 69 = .ok (.istore_n 3, 1) := by decide +kernel
theorem dX12_addState_70 : decode cX12_addState 70 = .ok (.iinc 6 1, 3) := by decide +kernel
theorem dX12_addState_73 : decode cX12_addState 73 = .ok (.goto (-25), 3) := by decide +kernel
theorem dX12_addState_76 : decode cX12_addState 76 = .ok (.iload_n 3, 1) := by decide +kernel
theorem dX12_addState_77 : decode cX12_addState 77 = .ok (.iload_n 3, 1) := by decide +kernel
theorem dX12_addState_78 : decode cX12_addState 78 = .ok (.bipush 13, 2) := by decide +kernel
theorem dX12_addState_80 : decode cX12_addState 80 = .ok (.iushr, 1) := by decide +kernel
theorem dX12_addState_81 : decode cX12_addState 81 = .ok (.ixor, 1) := by decide +kernel
theorem dX12_addState_82 : decode cX12_addState 82 = .ok (.sipush 8191, 3) := by decide +kernel
theorem dX12_addState_85 : decode cX12_addState 85 = .ok (.iand, 1) := by decide +kernel
theorem dX12_addState_86 : decode cX12_addState 86 = .ok (.istore 4, 2) := by decide +kernel
theorem dX12_addState_88 : decode cX12_addState 88 = .ok (.aload_n 0, 1) := by decide +kernel
theorem dX12_addState_89 : decode cX12_addState 89 = .ok (.getfield 97, 3) := by decide +kernel
theorem dX12_addState_92 : decode cX12_addState 92 = .ok (.iload 4, 2) := by decide +kernel
theorem dX12_addState_94 : decode cX12_addState 94 = .ok (.iaload, 1) := by decide +kernel
theorem dX12_addState_95 : decode cX12_addState 95 = .ok (.ifCond .eq 32, 3) := by decide +kernel
theorem dX12_addState_98 : decode cX12_addState 98 = .ok (.aload_n 0, 1) := by decide +kernel
theorem dX12_addState_99 : decode cX12_addState 99 = .ok (.aload_n 0, 1) := by decide +kernel
theorem dX12_addState_100 : decode cX12_addState 100 = .ok (.getfield 97, 3) := by decide +kernel
theorem dX12_addState_103 : decode cX12_addState 103 = .ok (.iload 4, 2) := by decide +kernel
theorem dX12_addState_105 : decode cX12_addState 105 = .ok (.iaload, 1) := by decide +kernel
theorem dX12_addState_106 : decode cX12_addState 106 = .ok (.iconst 1, 1) := by decide +kernel
theorem dX12_addState_107 : decode cX12_addState 107 = .ok (.isub, 1) := by decide +kernel
theorem dX12_addState_108 : decode cX12_addState 108 = .ok (.invokevirtual 333, 3) := by decide +kernel
theorem dX12_addState_111 : decode cX12_addState 111 = .ok (.ifCond .ne 16, 3) := by decide +kernel
theorem dX12_addState_114 : decode cX12_addState 114 = .ok (.iload 4, 2) := by decide +kernel
theorem dX12_addState_116 : decode cX12_addState 116 = .ok (.iconst 1, 1) := by decide +kernel
theorem dX12_addState_117 : decode cX12_addState 117 = .ok (.iadd, 1) := by decide +kernel
theorem dX12_addState_118 : decode cX12_addState 118 = .ok (.sipush 8191, 3) := by decide +kernel
theorem dX12_addState_121 : decode cX12_addState 121 = .ok (.iand, 1) := by decide +kernel
theorem dX12_addState_122 : decode cX12_addState 122 = .ok (.istore 4, 2) := by decide +kernel
theorem dX12_addState_124 : decode cX12_addState 124 = .ok (.goto (-36), 3) := by decide +kernel
theorem dX12_addState_127 : decode cX12_addState 127 = .ok (.aload_n 0, 1) := by decide +kernel
theorem dX12_addState_128 : decode cX12_addState 128 = .ok (.getfield 97, 3) := by decide +kernel
theorem dX12_addState_131 : decode cX12_addState 131 = .ok (.iload 4, 2) := by decide +kernel
theorem dX12_addState_133 : decode cX12_addState 133 = .ok (.iaload, 1) := by decide +kernel
theorem dX12_addState_134 : decode cX12_addState 134 = .ok (.ifCond .eq 5, 3) := by decide +kernel
theorem dX12_addState_137 : decode cX12_addState 137 = .ok (.iconst 1, 1) := by decide +kernel
theorem dX12_addState_138 : decode cX12_addState 138 = .ok (.ireturn, 1) := by decide +kernel
theorem dX12_addState_139 : decode cX12_addState 139 = .ok (.aload_n 0, 1) := by decide +kernel
theorem dX12_addState_140 : decode cX12_addState 140 = .ok (.getfield 336, 3) := by decide +kernel
theorem dX12_addState_143 : decode cX12_addState 143 = .ok (.sipush 3000, 3) := by decide +kernel
theorem dX12_addState_146 : decode cX12_addState 146 = .ok (.if_icmp .ne 5, 3) := by decide +kernel
theorem dX12_addState_149 : decode cX12_addState 149 = .ok (.iconst 0, 1) := by decide +kernel
theorem dX12_addState_150 : decode cX12_addState 150 = .ok (.ireturn, 1) := by decide +kernel
theorem dX12_addState_151 : decode cX12_addState 151 = .ok (.iconst 0, 1) := by decide +kernel
theorem dX12_addState_152 : decode cX12_addState 152 = .ok (.istore 5, 2) := by decide +kernel
theorem dX12_addState_154 : decode cX12_addState 154 = .ok (.iload 5, 2) := by decide +kernel
theorem dX12_addState_156 : decode cX12_addState 156 = .ok (.aload_n 0, 1) := by decide +kernel
theorem dX12_addState_157 : decode cX12_addState 157 = .ok (.getfield 134, 3) := by decide +kernel
theorem dX12_addState_160 : decode cX12_addState 160 = .ok (.if_icmp .ge 31, 3) := by decide +kernel
theorem dX12_addState_163 : decode cX12_addState 163 = .ok (.aload_n 0, 1) := by decide +kernel
theorem dX12_addState_164 : decode cX12_addState 164 = .ok (.getfield 85, 3) := by decide +kernel
theorem dX12_addState_167 : decode cX12_addState 167 = .ok (.bipush 45, 2) := by decide +kernel
theorem dX12_addState_169 : decode cX12_addState 169 = .ok (.aload_n 0, 1) := by decide +kernel
theorem dX12_addState_170 : decode cX12_addState 170 = .ok (.getfield 336, 3) := by decide +kernel
theorem dX12_addState_173 : decode cX12_addState 173 = .ok (.imul, 1) := by decide +kernel
theorem dX12_addState_174 : decode cX12_addState 174 = .ok (.iload 5, 2) := by decide +kernel
theorem dX12_addState_176 : decode cX12_addState 176 = .ok (.iadd, 1) := by decide +kernel
theorem dX12_addState_177 : decode cX12_addState 177 = .ok (.aload_n 0, 1) := by decide +kernel
theorem dX12_addState_178 : decode cX12_addState 178 = .ok (.getfield 72, 3) := by decide +kernel
theorem dX12_addState_181 : decode cX12_addState 181 = .ok (.iload 5, 2) := by decide +kernel
theorem dX12_addState_183 : decode cX12_addState 183 = .ok (.iaload, 1) := by decide +kernel
theorem dX12_addState_184 : decode cX12_addState 184 = .ok (.iastore, 1) := by decide +kernel
theorem dX12_addState_185 : decode cX12_addState 185 = .ok (.iinc 5 1, 3) := by decide +kernel
theorem dX12_addState_188 : decode cX12_addState 188 = .ok (.goto (-34), 3) := by decide +kernel
theorem dX12_addState_191 : decode cX12_addState 191 = .ok (.iconst 0, 1) := by decide +kernel
theorem dX12_addState_192 : decode cX12_addState 192 = .ok (.istore 5, 2) := by decide +kernel
theorem dX12_addState_194 : decode cX12_addState 194 = .ok (.iload 5, 2) := by decide +kernel
theorem dX12_addState_196 : decode cX12_addState 196 = .ok (.bipush 36, 2) := by decide +kernel
theorem dX12_addState_198 : decode cX12_addState 198 = .ok (.if_icmp .ge 34, 3) := by decide +kernel
theorem dX12_addState_201 : decode cX12_addState 201 = .ok (.aload_n 0, 1) := by decide +kernel
theorem dX12_addState_202 : decode cX12_addState 202 = .ok (.getfield 85, 3) := by decide +kernel
theorem dX12_addState_205 : decode cX12_addState 205 = .ok (.bipush 45, 2) := by decide +kernel
theorem dX12_addState_207 : decode cX12_addState 207 = .ok (.aload_n 0, 1) := by decide +kernel
theorem dX12_addState_208 : decode cX12_addState 208 = .ok (.getfield 336, 3) := by decide +kernel
theorem dX12_addState_211 : decode cX12_addState 211 = .ok (.imul, 1) := by decide +kernel
theorem dX12_addState_212 : decode cX12_addState 212 = .ok (.bipush 9, 2) := by decide +kernel
theorem dX12_addState_214 : decode cX12_addState 214 = .ok (.iadd, 1) := by decide +kernel
theorem dX12_addState_215 : decode cX12_addState 215 = .ok (.iload 5, 2) := by decide +kernel
theorem dX12_addState_217 : decode cX12_addState 217 = .ok (.iadd, 1) := by decide +kernel
theorem dX12_addState_218 : decode cX12_addState 218 = .ok (.aload_n 0, 1) := by decide +kernel
theorem dX12_addState_219 : decode cX12_addState 219 = .ok (.getfield 100, 3) := by decide +kernel
theorem dX12_addState_222 : decode cX12_addState 222 = .ok (.iload 5, 2) := by decide +kernel
theorem dX12_addState_224 : decode cX12_addState 224 = .ok (.iaload, 1) := by decide +kernel
theorem dX12_addState_225 : decode cX12_addState 225 = .ok (.iastore, 1) := by decide +kernel
theorem dX12_addState_226 : decode cX12_addState 226 = .ok (.iinc 5 1, 3) := by decide +kernel
theorem dX12_addState_229 : decode cX12_addState 229 = .ok (.goto (-35), 3) := by decide +kernel
theorem dX12_addState_232 : decode cX12_addState 232 = .ok (.aload_n 0, 1) := by decide +kernel
theorem dX12_addState_233 : decode cX12_addState 233 = .ok (.getfield 91, 3) := by decide +kernel
theorem dX12_addState_236 : decode cX12_addState 236 = .ok (.aload_n 0, 1) := by decide +kernel
theorem dX12_addState_237 : decode cX12_addState 237 = .ok (.getfield 336, 3) := by decide +kernel
theorem dX12_addState_240 : decode cX12_addState 240 = .ok (.iload_n 1, 1) := by decide +kernel
theorem dX12_addState_241 : decode cX12_addState 241 = .ok (.iastore, 1) := by decide +kernel
theorem dX12_addState_242 : decode cX12_addState 242 = .ok (.aload_n 0, 1) := by decide +kernel
theorem dX12_addState_243 : decode cX12_addState 243 = .ok (.getfield 94, 3) := by decide +kernel
theorem dX12_addState_246 : decode cX12_addState 246 = .ok (.aload_n 0, 1) := by decide +kernel
theorem dX12_addState_247 : decode cX12_addState 247 = .ok (.getfield 336, 3) := by decide +kernel
theorem dX12_addState_250 : decode cX12_addState 250 = .ok (.iload_n 2, 1) := by decide +kernel
theorem dX12_addState_251 : decode cX12_addState 251 = .ok (.iastore, 1) := by decide +kernel
theorem dX12_addState_252 : decode cX12_addState 252 = .ok (.aload_n 0, 1) := by decide +kernel
theorem dX12_addState_253 : decode cX12_addState 253 = .ok (.getfield 88, 3) := by decide +kernel
theorem dX12_addState_256 : decode cX12_addState 256 = .ok (.aload_n 0, 1) := by decide +kernel
theorem dX12_addState_257 : decode cX12_addState 257 = .ok (.getfield 336, 3) := by decide +kernel
theorem dX12_addState_260 : decode cX12_addState 260 = .ok (.iload_n 1, 1) := by decide +kernel
theorem dX12_addState_261 : decode cX12_addState 261 = .ok (.iconst (-1), 1) := by decide +kernel
theorem dX12_addState_262 : decode cX12_addState 262 = .ok (.if_icmp .ne 7, 3) := by decide +kernel
theorem dX12_addState_265 : decode cX12_addState 265 = .ok (.iconst 0, 1) := by decide +kernel
theorem dX12_addState_266 : decode cX12_addState 266 = .ok (.goto 11, 3) := by decide +kernel
theorem dX12_addState_269 : decode cX12_addState 269 = .ok (.aload_n 0, 1) := by decide +kernel
theorem dX12_addState_270 : decode cX12_addState 270 = .ok (.getfield 88, 3) := by decide +kernel
theorem dX12_addState_273 : decode cX12_addState 273 = .ok (.iload_n 1, 1) := by decide +kernel
theorem dX12_addState_274 : decode cX12_addState 274 = .ok (.iaload, 1) := by decide +kernel
theorem dX12_addState_275 : decode cX12_addState 275 = .ok (.iconst 1, 1) := by decide +kernel
theorem dX12_addState_276 : decode cX12_addState 276 = .ok (.iadd, 1) := by decide +kernel
theorem dX12_addState_277 : decode cX12_addState 277 = .ok (.iastore, 1) := by decide +kernel
theorem dX12_addState_278 : decode cX12_addState 278 = .ok (.aload_n 0, 1) := by decide +kernel
theorem dX12_addState_279 : decode cX12_addState 279 = .ok (.dup, 1) := by decide +kernel
theorem dX12_addState_280 : decode cX12_addState 280 = .ok (.getfield 336, 3) := by decide +kernel
theorem dX12_addState_283 : decode cX12_addState 283 = .ok (.iconst 1, 1) := by decide +kernel
theorem dX12_addState_284 : decode cX12_addState 284 = .ok (.iadd, 1) := by decide +kernel
theorem dX12_addState_285 : decode cX12_addState 285 = .ok (.putfield 336, 3) := by decide +kernel
theorem dX12_addState_288 : decode cX12_addState 288 = .ok (.aload_n 0, 1) := by decide +kernel
theorem dX12_addState_289 : decode cX12_addState 289 = .ok (.getfield 97, 3) := by decide +kernel
theorem dX12_addState_292 : decode cX12_addState 292 = .ok (.iload 4, 2) := by decide +kernel
theorem dX12_addState_294 : decode cX12_addState 294 = .ok (.aload_n 0, 1) := by decide +kernel
theorem dX12_addState_295 : decode cX12_addState 295 = .ok (.getfield 336, 3) := by decide +kernel
theorem dX12_addState_298 : decode cX12_addState 298 = .ok (.iastore, 1) := by decide +kernel
theorem dX12_addState_299 : decode cX12_addState 299 = .ok (.iconst 1, 1) := by decide +kernel
theorem dX12_addState_300 : decode cX12_addState 300 = .ok (.ireturn, 1) := by decide +kernel
theorem bkX12_addState_0 {b : Int} {mem : qm} {Q : Int → qm → Prop}
    {v w : Int}
    (l1 : q_At yX12_addState cX12_addState 8 (some .boolean) 2 0 0 (qK (q_rb b) Q) 6 [(2, 188), (0, v), (0, w), (0, 7), (0, 0), (4, 0), (4, 0), (4, 0)] [] (q_sh0, q_rb b, mem)) :
    q_At yX12_addState cX12_addState 8 (some .boolean) 2 0 0 (qK (q_rb b) Q) 0 [(2, 188), (0, v), (0, w), (4, 0), (4, 0), (4, 0), (4, 0), (4, 0)] [] (q_sh0, q_rb b, mem) := by
  refine qx_bipush dX12_addState_0 rfl rfl ?_
  refine qx_istore_n (L' := [(2, 188), (0, v), (0, w), (0, 7), (4, 0), (4, 0), (4, 0), (4, 0)]) dX12_addState_2 rfl rfl rfl rfl ?_
  refine qx_iconst dX12_addState_3 rfl rfl ?_
  refine qx_istore (L' := [(2, 188), (0, v), (0, w), (0, 7), (0, 0), (4, 0), (4, 0), (4, 0)]) dX12_addState_4 rfl rfl rfl ?_
  exact l1
theorem bkX12_addState_6 {b : Int} {mem : qm} {Q : Int → qm → Prop}
    {v w v3 v4 : Int}
    (l1 : (mem 188 0) ≤ v4 → q_At yX12_addState cX12_addState 8 (some .boolean) 2 0 0 (qK (q_rb b) Q) 48 [(2, 188), (0, v), (0, w), (0, v3), (2, 216), (0, 36), (0, 0), (4, 0)] [] (q_sh0, q_rb b, mem))
    (o2 : v4 < (mem 188 0) → (0 ≤ v4 ∧ v4 < 9) ∧ q_in32 (v4 + 1))
    (l3 : v4 < (mem 188 0) → q_At yX12_addState cX12_addState 8 (some .boolean) 2 0 0 (qK (q_rb b) Q) 6 [(2, 188), (0, v), (0, w), (0, (q_w32 ((q_w32 (31 * v3)) + (mem 207 v4)))), (0, (v4 + 1)), (4, 0), (4, 0), (4, 0)] [] (q_sh0, q_rb b, mem)) :
    q_At yX12_addState cX12_addState 8 (some .boolean) 2 0 0 (qK (q_rb b) Q) 6 [(2, 188), (0, v), (0, w), (0, v3), (0, v4), (4, 0), (4, 0), (4, 0)] [] (q_sh0, q_rb b, mem) := by
  refine q_iload dX12_addState_6 rfl ?_
  refine q_aload_n dX12_addState_8 rfl rfl ?_
  refine qx_getI (ci := 12) (k := 0) (v := (mem 188 0)) dX12_addState_9 rfl rfl rfl tw1183 rfl qs188 rfl ?_
  refine qx_icmp_ge (tgt := 34) dX12_addState_12 (by decide) (fun c1 => ?_) (fun c1 => ?_)
  · skip
    refine q_aload_n dX12_addState_34 rfl rfl ?_
    refine q_getR (ci := 12) (k := 44) dX12_addState_35 rfl (by decide) rfl tw1227 (by decide) qs188 qw188_44 (by decide) ?_
    refine qx_astore (L' := [(2, 188), (0, v), (0, w), (0, v3), (2, 216), (4, 0), (4, 0), (4, 0)]) dX12_addState_38 rfl rfl rfl ?_
    refine q_aload dX12_addState_40 rfl ?_
    refine q_alen0 dX12_addState_42 qs216 (by decide) ?_
    refine qx_istore (L' := [(2, 188), (0, v), (0, w), (0, v3), (2, 216), (0, 36), (4, 0), (4, 0)]) dX12_addState_43 rfl rfl rfl ?_
    refine qx_iconst dX12_addState_45 rfl rfl ?_
    refine qx_istore (L' := [(2, 188), (0, v), (0, w), (0, v3), (2, 216), (0, 36), (0, 0), (4, 0)]) dX12_addState_46 rfl rfl rfl ?_
    exact l1 c1
  · skip
    refine qx_bipush dX12_addState_15 rfl rfl ?_
    refine q_iload_n dX12_addState_17 rfl rfl ?_
    refine q_imul dX12_addState_18 ?_
    refine q_aload_n dX12_addState_19 rfl rfl ?_
    refine q_getR (ci := 12) (k := 33) dX12_addState_20 rfl (by decide) rfl tw1216 (by decide) qs188 qw188_33 (by decide) ?_
    refine q_iload dX12_addState_23 rfl ?_
    refine qx_iald (v := (mem 207 v4)) dX12_addState_25 qs207 (o2 c1).1 rfl ?_
    refine q_iadd dX12_addState_26 ?_
    refine qx_istore_n (L' := [(2, 188), (0, v), (0, w), (0, (q_w32 ((q_w32 (31 * v3)) + (mem 207 v4)))), (0, v4), (4, 0), (4, 0), (4, 0)]) dX12_addState_27 rfl rfl rfl rfl ?_
    refine qx_iinc (L' := [(2, 188), (0, v), (0, w), (0, (q_w32 ((q_w32 (31 * v3)) + (mem 207 v4)))), (0, (v4 + 1)), (4, 0), (4, 0), (4, 0)]) dX12_addState_28 rfl rfl rfl (o2 c1).2 rfl ?_
    refine q_goto (tgt := 6) dX12_addState_31 (by decide) ?_
    exact l3 c1
theorem bkX12_addState_48 {b : Int} {mem : qm} {Q : Int → qm → Prop}
    {v w v3 v5 v6 : Int}
    (l1 : v5 ≤ v6 → q_At yX12_addState cX12_addState 8 (some .boolean) 2 0 0 (qK (q_rb b) Q) 88 [(2, 188), (0, v), (0, w), (0, v3), (0, (q_oiand (q_oixor v3 (q_oiushr v3 13)) 8191)), (0, v5), (0, v6), (4, 0)] [] (q_sh0, q_rb b, mem))
    (o2 : v6 < v5 → (0 ≤ v6 ∧ v6 < 36) ∧ q_in32 (v6 + 1))
    (l3 : v6 < v5 → q_At yX12_addState cX12_addState 8 (some .boolean) 2 0 0 (qK (q_rb b) Q) 48 [(2, 188), (0, v), (0, w), (0, (q_w32 ((q_w32 (31 * v3)) + (mem 216 v6)))), (2, 216), (0, v5), (0, (v6 + 1)), (4, 0)] [] (q_sh0, q_rb b, mem)) :
    q_At yX12_addState cX12_addState 8 (some .boolean) 2 0 0 (qK (q_rb b) Q) 48 [(2, 188), (0, v), (0, w), (0, v3), (2, 216), (0, v5), (0, v6), (4, 0)] [] (q_sh0, q_rb b, mem) := by
  refine q_iload dX12_addState_48 rfl ?_
  refine q_iload dX12_addState_50 rfl ?_
  refine qx_icmp_ge (tgt := 76) dX12_addState_52 (by decide) (fun c1 => ?_) (fun c1 => ?_)
  · skip
    refine q_iload_n dX12_addState_76 rfl rfl ?_
    refine q_iload_n dX12_addState_77 rfl rfl ?_
    refine qx_bipush dX12_addState_78 rfl rfl ?_
    refine q_iushr dX12_addState_80 ?_
    refine q_ixor dX12_addState_81 ?_
    refine qx_sipush dX12_addState_82 rfl rfl ?_
    refine q_iand dX12_addState_85 ?_
    refine qx_istore (L' := [(2, 188), (0, v), (0, w), (0, v3), (0, (q_oiand (q_oixor v3 (q_oiushr v3 13)) 8191)), (0, v5), (0, v6), (4, 0)]) dX12_addState_86 rfl rfl rfl ?_
    exact l1 c1
  · skip
    refine q_aload dX12_addState_55 rfl ?_
    refine q_iload dX12_addState_57 rfl ?_
    refine qx_iald (v := (mem 216 v6)) dX12_addState_59 qs216 (o2 c1).1 rfl ?_
    refine qx_istore (L' := [(2, 188), (0, v), (0, w), (0, v3), (2, 216), (0, v5), (0, v6), (0, (mem 216 v6))]) dX12_addState_60 rfl rfl rfl ?_
    refine qx_bipush dX12_addState_62 rfl rfl ?_
    refine q_iload_n dX12_addState_64 rfl rfl ?_
    refine q_imul dX12_addState_65 ?_
    refine q_iload dX12_addState_66 rfl ?_
    refine q_iadd dX12_addState_68 ?_
    refine qx_istore_n (L' := [(2, 188), (0, v), (0, w), (0, (q_w32 ((q_w32 (31 * v3)) + (mem 216 v6)))), (2, 216), (0, v5), (0, v6), (0, (mem 216 v6))]) dX12_addState_69 rfl rfl rfl rfl ?_
    refine qx_iinc (L' := [(2, 188), (0, v), (0, w), (0, (q_w32 ((q_w32 (31 * v3)) + (mem 216 v6)))), (2, 216), (0, v5), (0, (v6 + 1)), (0, (mem 216 v6))]) dX12_addState_70 rfl rfl rfl (o2 c1).2 rfl ?_
    refine q_goto (tgt := 48) dX12_addState_73 (by decide) ?_
    refine q_kill (L' := [(2, 188), (0, v), (0, w), (0, (q_w32 ((q_w32 (31 * v3)) + (mem 216 v6)))), (2, 216), (0, v5), (0, (v6 + 1)), (4, 0)]) 7 rfl ?_
    exact l3 c1
theorem bkX12_addState_88 {b : Int} {mem : qm} {Q : Int → qm → Prop}
    {v w v3 v4 v5 v6 : Int}
    (o1 : (0 ≤ v4 ∧ v4 < 8192))
    (l2 : (mem 215 v4) = 0 → (mem 215 v4) = 0 → (mem 188 42) ≠ 3000 → q_At yX12_addState cX12_addState 8 (some .boolean) 2 0 0 (qK (q_rb b) Q) 154 [(2, 188), (0, v), (0, w), (0, v3), (0, v4), (0, 0), (0, v6), (4, 0)] [] (q_sh0, q_rb b, mem))
    (l3 : (mem 215 v4) = 0 → (mem 215 v4) = 0 → (mem 188 42) = 3000 → Q 0 mem)
    (l4 : (mem 215 v4) = 0 → (mem 215 v4) ≠ 0 → Q 1 mem)
    (o5 : (mem 215 v4) ≠ 0 → q_in32 ((mem 215 v4) - 1))
    {P4 : Int → qm → Prop}
    (l6 : (mem 215 v4) ≠ 0 → q_Ev yX12_isState cX12_isState 3 (some .boolean) 1 0 0 [(2, 188), (0, ((mem 215 v4) - 1))] (q_sh0, q_rb b, mem) (qK (q_rb b) (P4)))
    (l7 : (mem 215 v4) ≠ 0 → ∀ (r4 : Int), ∀ (m4 : qm), P4 r4 m4 → q_in32 r4 → r4 ≠ 0 → (m4 215 v4) = 0 → (m4 188 42) ≠ 3000 → q_At yX12_addState cX12_addState 8 (some .boolean) 2 0 0 (qK (q_rb b) Q) 154 [(2, 188), (0, v), (0, w), (0, v3), (0, v4), (0, 0), (0, v6), (4, 0)] [] (q_sh0, q_rb b, m4))
    (l8 : (mem 215 v4) ≠ 0 → ∀ (r4 : Int), ∀ (m4 : qm), P4 r4 m4 → q_in32 r4 → r4 ≠ 0 → (m4 215 v4) = 0 → (m4 188 42) = 3000 → Q 0 m4)
    (l9 : (mem 215 v4) ≠ 0 → ∀ (r4 : Int), ∀ (m4 : qm), P4 r4 m4 → q_in32 r4 → r4 ≠ 0 → (m4 215 v4) ≠ 0 → Q 1 m4)
    (o10 : (mem 215 v4) ≠ 0 → ∀ (r4 : Int), ∀ (m4 : qm), P4 r4 m4 → q_in32 r4 → r4 = 0 → q_in32 (v4 + 1))
    (l11 : (mem 215 v4) ≠ 0 → ∀ (r4 : Int), ∀ (m4 : qm), P4 r4 m4 → q_in32 r4 → r4 = 0 → q_At yX12_addState cX12_addState 8 (some .boolean) 2 0 0 (qK (q_rb b) Q) 88 [(2, 188), (0, v), (0, w), (0, v3), (0, (q_oiand (v4 + 1) 8191)), (0, v5), (0, v6), (4, 0)] [] (q_sh0, q_rb b, m4)) :
    q_At yX12_addState cX12_addState 8 (some .boolean) 2 0 0 (qK (q_rb b) Q) 88 [(2, 188), (0, v), (0, w), (0, v3), (0, v4), (0, v5), (0, v6), (4, 0)] [] (q_sh0, q_rb b, mem) := by
  refine q_aload_n dX12_addState_88 rfl rfl ?_
  refine q_getR (ci := 12) (k := 43) dX12_addState_89 rfl (by decide) rfl tw1226 (by decide) qs188 qw188_43 (by decide) ?_
  refine q_iload dX12_addState_92 rfl ?_
  refine qx_iald (v := (mem 215 v4)) dX12_addState_94 qs215 (o1) rfl ?_
  refine qx_if_eq (tgt := 127) dX12_addState_95 (by decide) (fun c1 => ?_) (fun c1 => ?_)
  · skip
    refine q_aload_n dX12_addState_127 rfl rfl ?_
    refine q_getR (ci := 12) (k := 43) dX12_addState_128 rfl (by decide) rfl tw1226 (by decide) qs188 qw188_43 (by decide) ?_
    refine q_iload dX12_addState_131 rfl ?_
    refine qx_iald (v := (mem 215 v4)) dX12_addState_133 qs215 (o1) rfl ?_
    refine qx_if_eq (tgt := 139) dX12_addState_134 (by decide) (fun c2 => ?_) (fun c2 => ?_)
    · skip
      refine q_aload_n dX12_addState_139 rfl rfl ?_
      refine qx_getI (ci := 12) (k := 42) (v := (mem 188 42)) dX12_addState_140 rfl rfl rfl tw1225 rfl qs188 rfl ?_
      refine qx_sipush dX12_addState_143 rfl rfl ?_
      refine qx_icmp_ne (tgt := 151) dX12_addState_146 (by decide) (fun c3 => ?_) (fun c3 => ?_)
      · skip
        refine qx_iconst dX12_addState_151 rfl rfl ?_
        refine qx_istore (L' := [(2, 188), (0, v), (0, w), (0, v3), (0, v4), (0, 0), (0, v6), (4, 0)]) dX12_addState_152 rfl rfl rfl ?_
        exact l2 c1 c2 c3
      · skip
        refine qx_iconst dX12_addState_149 rfl rfl ?_
        exact q_zret dX12_addState_150 (by decide) (qK_i (l3 c1 c2 c3))
    · skip
      refine qx_iconst dX12_addState_137 rfl rfl ?_
      exact q_zret dX12_addState_138 (by decide) (qK_i (l4 c1 c2))
  · skip
    refine q_aload_n dX12_addState_98 rfl rfl ?_
    refine q_aload_n dX12_addState_99 rfl rfl ?_
    refine q_getR (ci := 12) (k := 43) dX12_addState_100 rfl (by decide) rfl tw1226 (by decide) qs188 qw188_43 (by decide) ?_
    refine q_iload dX12_addState_103 rfl ?_
    refine qx_iald (v := (mem 215 v4)) dX12_addState_105 qs215 (o1) rfl ?_
    refine qx_iconst dX12_addState_106 rfl rfl ?_
    refine qx_isub dX12_addState_107 (o5 c1) ?_
    refine qx_invV (ci := 12) [(0, ((mem 215 v4) - 1))] [(0, ((mem 215 v4) - 1)), (2, 188)] rfl qM_X12_isState dX12_addState_108 tw1627 rfl qs188 rfl rfl rfl rfl (l6 c1) (fun r4 m4 p4 q4 => ?_)
    refine qx_if_ne (tgt := 127) dX12_addState_111 (by decide) (fun c5 => ?_) (fun c5 => ?_)
    · skip
      refine q_aload_n dX12_addState_127 rfl rfl ?_
      refine q_getR (ci := 12) (k := 43) dX12_addState_128 rfl (by decide) rfl tw1226 (by decide) qs188 qw188_43 (by decide) ?_
      refine q_iload dX12_addState_131 rfl ?_
      refine qx_iald (v := (m4 215 v4)) dX12_addState_133 qs215 (o1) rfl ?_
      refine qx_if_eq (tgt := 139) dX12_addState_134 (by decide) (fun c6 => ?_) (fun c6 => ?_)
      · skip
        refine q_aload_n dX12_addState_139 rfl rfl ?_
        refine qx_getI (ci := 12) (k := 42) (v := (m4 188 42)) dX12_addState_140 rfl rfl rfl tw1225 rfl qs188 rfl ?_
        refine qx_sipush dX12_addState_143 rfl rfl ?_
        refine qx_icmp_ne (tgt := 151) dX12_addState_146 (by decide) (fun c7 => ?_) (fun c7 => ?_)
        · skip
          refine qx_iconst dX12_addState_151 rfl rfl ?_
          refine qx_istore (L' := [(2, 188), (0, v), (0, w), (0, v3), (0, v4), (0, 0), (0, v6), (4, 0)]) dX12_addState_152 rfl rfl rfl ?_
          exact l7 c1 r4 m4 p4 q4 c5 c6 c7
        · skip
          refine qx_iconst dX12_addState_149 rfl rfl ?_
          exact q_zret dX12_addState_150 (by decide) (qK_i (l8 c1 r4 m4 p4 q4 c5 c6 c7))
      · skip
        refine qx_iconst dX12_addState_137 rfl rfl ?_
        exact q_zret dX12_addState_138 (by decide) (qK_i (l9 c1 r4 m4 p4 q4 c5 c6))
    · skip
      refine q_iload dX12_addState_114 rfl ?_
      refine qx_iconst dX12_addState_116 rfl rfl ?_
      refine qx_iadd dX12_addState_117 (o10 c1 r4 m4 p4 q4 c5) ?_
      refine qx_sipush dX12_addState_118 rfl rfl ?_
      refine q_iand dX12_addState_121 ?_
      refine qx_istore (L' := [(2, 188), (0, v), (0, w), (0, v3), (0, (q_oiand (v4 + 1) 8191)), (0, v5), (0, v6), (4, 0)]) dX12_addState_122 rfl rfl rfl ?_
      refine q_goto (tgt := 88) dX12_addState_124 (by decide) ?_
      exact l11 c1 r4 m4 p4 q4 c5
theorem bkX12_addState_154 {b : Int} {mem : qm} {Q : Int → qm → Prop}
    {v w v3 v4 v5 v6 : Int}
    (l1 : (mem 188 0) ≤ v5 → q_At yX12_addState cX12_addState 8 (some .boolean) 2 0 0 (qK (q_rb b) Q) 194 [(2, 188), (0, v), (0, w), (0, v3), (0, v4), (0, 0), (0, v6), (4, 0)] [] (q_sh0, q_rb b, mem))
    (o2 : v5 < (mem 188 0) → q_in32 (45 * (mem 188 42)) ∧ q_in32 ((45 * (mem 188 42)) + v5) ∧ (0 ≤ v5 ∧ v5 < 9) ∧ (0 ≤ ((45 * (mem 188 42)) + v5) ∧ ((45 * (mem 188 42)) + v5) < 135000) ∧ q_in32 (v5 + 1))
    (l3 : v5 < (mem 188 0) → q_At yX12_addState cX12_addState 8 (some .boolean) 2 0 0 (qK (q_rb b) Q) 154 [(2, 188), (0, v), (0, w), (0, v3), (0, v4), (0, (v5 + 1)), (0, v6), (4, 0)] [] (q_sh0, q_rb b, (q_up mem 211 ((45 * (mem 188 42)) + v5) (mem 207 v5)))) :
    q_At yX12_addState cX12_addState 8 (some .boolean) 2 0 0 (qK (q_rb b) Q) 154 [(2, 188), (0, v), (0, w), (0, v3), (0, v4), (0, v5), (0, v6), (4, 0)] [] (q_sh0, q_rb b, mem) := by
  refine q_iload dX12_addState_154 rfl ?_
  refine q_aload_n dX12_addState_156 rfl rfl ?_
  refine qx_getI (ci := 12) (k := 0) (v := (mem 188 0)) dX12_addState_157 rfl rfl rfl tw1183 rfl qs188 rfl ?_
  refine qx_icmp_ge (tgt := 191) dX12_addState_160 (by decide) (fun c1 => ?_) (fun c1 => ?_)
  · skip
    refine qx_iconst dX12_addState_191 rfl rfl ?_
    refine qx_istore (L' := [(2, 188), (0, v), (0, w), (0, v3), (0, v4), (0, 0), (0, v6), (4, 0)]) dX12_addState_192 rfl rfl rfl ?_
    exact l1 c1
  · skip
    refine q_aload_n dX12_addState_163 rfl rfl ?_
    refine q_getR (ci := 12) (k := 38) dX12_addState_164 rfl (by decide) rfl tw1221 (by decide) qs188 qw188_38 (by decide) ?_
    refine qx_bipush dX12_addState_167 rfl rfl ?_
    refine q_aload_n dX12_addState_169 rfl rfl ?_
    refine qx_getI (ci := 12) (k := 42) (v := (mem 188 42)) dX12_addState_170 rfl rfl rfl tw1225 rfl qs188 rfl ?_
    refine qx_imul dX12_addState_173 (o2 c1).1 ?_
    refine q_iload dX12_addState_174 rfl ?_
    refine qx_iadd dX12_addState_176 (o2 c1).2.1 ?_
    refine q_aload_n dX12_addState_177 rfl rfl ?_
    refine q_getR (ci := 12) (k := 33) dX12_addState_178 rfl (by decide) rfl tw1216 (by decide) qs188 qw188_33 (by decide) ?_
    refine q_iload dX12_addState_181 rfl ?_
    refine qx_iald (v := (mem 207 v5)) dX12_addState_183 qs207 (o2 c1).2.2.1 rfl ?_
    refine q_iast dX12_addState_184 qs211 ((o2 c1).2.2.2.1).1 ((o2 c1).2.2.2.1).2 ?_
    refine qx_iinc (L' := [(2, 188), (0, v), (0, w), (0, v3), (0, v4), (0, (v5 + 1)), (0, v6), (4, 0)]) dX12_addState_185 rfl rfl rfl (o2 c1).2.2.2.2 rfl ?_
    refine q_goto (tgt := 154) dX12_addState_188 (by decide) ?_
    exact l3 c1
theorem bkX12_addState_194 {b : Int} {mem : qm} {Q : Int → qm → Prop}
    {v w v3 v4 v5 v6 : Int}
    (o1 : 36 ≤ v5 → (0 ≤ (mem 188 42) ∧ (mem 188 42) < 3000))
    (o2 : 36 ≤ v5 → v ≠ (-1) → (0 ≤ v ∧ v < 3000) ∧ q_in32 ((mem 212 v) + 1) ∧ q_in32 ((mem 188 42) + 1) ∧ (0 ≤ v4 ∧ v4 < 8192))
    (l3 : 36 ≤ v5 → v ≠ (-1) → Q 1 (q_up (q_up (q_up (q_up (q_up mem 213 (mem 188 42) v) 214 (mem 188 42) w) 212 (mem 188 42) ((mem 212 v) + 1)) 188 42 ((mem 188 42) + 1)) 215 v4 ((mem 188 42) + 1)))
    (o4 : 36 ≤ v5 → v = (-1) → q_in32 ((mem 188 42) + 1) ∧ (0 ≤ v4 ∧ v4 < 8192))
    (l5 : 36 ≤ v5 → v = (-1) → Q 1 (q_up (q_up (q_up (q_up (q_up mem 213 (mem 188 42) v) 214 (mem 188 42) w) 212 (mem 188 42) 0) 188 42 ((mem 188 42) + 1)) 215 v4 ((mem 188 42) + 1)))
    (o6 : v5 < 36 → q_in32 (45 * (mem 188 42)) ∧ q_in32 ((45 * (mem 188 42)) + 9) ∧ q_in32 (((45 * (mem 188 42)) + 9) + v5) ∧ (0 ≤ v5 ∧ v5 < 36) ∧ (0 ≤ (((45 * (mem 188 42)) + 9) + v5) ∧ (((45 * (mem 188 42)) + 9) + v5) < 135000) ∧ q_in32 (v5 + 1))
    (l7 : v5 < 36 → q_At yX12_addState cX12_addState 8 (some .boolean) 2 0 0 (qK (q_rb b) Q) 194 [(2, 188), (0, v), (0, w), (0, v3), (0, v4), (0, (v5 + 1)), (0, v6), (4, 0)] [] (q_sh0, q_rb b, (q_up mem 211 (((45 * (mem 188 42)) + 9) + v5) (mem 216 v5)))) :
    q_At yX12_addState cX12_addState 8 (some .boolean) 2 0 0 (qK (q_rb b) Q) 194 [(2, 188), (0, v), (0, w), (0, v3), (0, v4), (0, v5), (0, v6), (4, 0)] [] (q_sh0, q_rb b, mem) := by
  refine q_iload dX12_addState_194 rfl ?_
  refine qx_bipush dX12_addState_196 rfl rfl ?_
  refine qx_icmp_ge (tgt := 232) dX12_addState_198 (by decide) (fun c1 => ?_) (fun c1 => ?_)
  · skip
    refine q_aload_n dX12_addState_232 rfl rfl ?_
    refine q_getR (ci := 12) (k := 40) dX12_addState_233 rfl (by decide) rfl tw1223 (by decide) qs188 qw188_40 (by decide) ?_
    refine q_aload_n dX12_addState_236 rfl rfl ?_
    refine qx_getI (ci := 12) (k := 42) (v := (mem 188 42)) dX12_addState_237 rfl rfl rfl tw1225 rfl qs188 rfl ?_
    refine q_iload_n dX12_addState_240 rfl rfl ?_
    refine q_iast dX12_addState_241 qs213 ((o1 c1)).1 ((o1 c1)).2 ?_
    refine q_aload_n dX12_addState_242 rfl rfl ?_
    refine q_getR (ci := 12) (k := 41) dX12_addState_243 rfl (by decide) rfl tw1224 (by decide) qs188 qw188_41 (by decide) ?_
    refine q_aload_n dX12_addState_246 rfl rfl ?_
    refine qx_getI (ci := 12) (k := 42) (v := (mem 188 42)) dX12_addState_247 rfl rfl rfl tw1225 rfl qs188 (q_up_c (by decide)) ?_
    refine q_iload_n dX12_addState_250 rfl rfl ?_
    refine q_iast dX12_addState_251 qs214 ((o1 c1)).1 ((o1 c1)).2 ?_
    refine q_aload_n dX12_addState_252 rfl rfl ?_
    refine q_getR (ci := 12) (k := 39) dX12_addState_253 rfl (by decide) rfl tw1222 (by decide) qs188 qw188_39 (by decide) ?_
    refine q_aload_n dX12_addState_256 rfl rfl ?_
    refine qx_getI (ci := 12) (k := 42) (v := (mem 188 42)) dX12_addState_257 rfl rfl rfl tw1225 rfl qs188 ((q_up_c (by decide)).trans (q_up_c (by decide))) ?_
    refine q_iload_n dX12_addState_260 rfl rfl ?_
    refine qx_iconst dX12_addState_261 rfl rfl ?_
    refine qx_icmp_ne (tgt := 269) dX12_addState_262 (by decide) (fun c2 => ?_) (fun c2 => ?_)
    · skip
      refine q_aload_n dX12_addState_269 rfl rfl ?_
      refine q_getR (ci := 12) (k := 39) dX12_addState_270 rfl (by decide) rfl tw1222 (by decide) qs188 qw188_39 (by decide) ?_
      refine q_iload_n dX12_addState_273 rfl rfl ?_
      refine qx_iald (v := (mem 212 v)) dX12_addState_274 qs212 (o2 c1 c2).1 ((q_up_c (by decide)).trans (q_up_c (by decide))) ?_
      refine qx_iconst dX12_addState_275 rfl rfl ?_
      refine qx_iadd dX12_addState_276 (o2 c1 c2).2.1 ?_
      refine q_iast dX12_addState_277 qs212 ((o1 c1)).1 ((o1 c1)).2 ?_
      refine q_aload_n dX12_addState_278 rfl rfl ?_
      refine q_dup dX12_addState_279 (fun h => by cases h) ?_
      refine qx_getI (ci := 12) (k := 42) (v := (mem 188 42)) dX12_addState_280 rfl rfl rfl tw1225 rfl qs188 ((q_up_c (by decide)).trans ((q_up_c (by decide)).trans (q_up_c (by decide)))) ?_
      refine qx_iconst dX12_addState_283 rfl rfl ?_
      refine qx_iadd dX12_addState_284 (o2 c1 c2).2.2.1 ?_
      refine q_putI (ci := 12) (k := 42) (kI := 42) (ty := .int) dX12_addState_285 rfl (by decide) rfl tw1225 rfl rfl rfl (fun _ => ⟨rfl, rfl⟩) qs188 ?_
      refine q_aload_n dX12_addState_288 rfl rfl ?_
      refine q_getR (ci := 12) (k := 43) dX12_addState_289 rfl (by decide) rfl tw1226 (by decide) qs188 qw188_43 (by decide) ?_
      refine q_iload dX12_addState_292 rfl ?_
      refine q_aload_n dX12_addState_294 rfl rfl ?_
      refine qx_getI (ci := 12) (k := 42) (v := ((mem 188 42) + 1)) dX12_addState_295 rfl rfl rfl tw1225 rfl qs188 q_up_s ?_
      refine q_iast dX12_addState_298 qs215 ((o2 c1 c2).2.2.2).1 ((o2 c1 c2).2.2.2).2 ?_
      refine qx_iconst dX12_addState_299 rfl rfl ?_
      exact q_zret dX12_addState_300 (by decide) (qK_i (l3 c1 c2))
    · skip
      refine qx_iconst dX12_addState_265 rfl rfl ?_
      refine q_goto (tgt := 277) dX12_addState_266 (by decide) ?_
      refine q_iast dX12_addState_277 qs212 ((o1 c1)).1 ((o1 c1)).2 ?_
      refine q_aload_n dX12_addState_278 rfl rfl ?_
      refine q_dup dX12_addState_279 (fun h => by cases h) ?_
      refine qx_getI (ci := 12) (k := 42) (v := (mem 188 42)) dX12_addState_280 rfl rfl rfl tw1225 rfl qs188 ((q_up_c (by decide)).trans ((q_up_c (by decide)).trans (q_up_c (by decide)))) ?_
      refine qx_iconst dX12_addState_283 rfl rfl ?_
      refine qx_iadd dX12_addState_284 (o4 c1 c2).1 ?_
      refine q_putI (ci := 12) (k := 42) (kI := 42) (ty := .int) dX12_addState_285 rfl (by decide) rfl tw1225 rfl rfl rfl (fun _ => ⟨rfl, rfl⟩) qs188 ?_
      refine q_aload_n dX12_addState_288 rfl rfl ?_
      refine q_getR (ci := 12) (k := 43) dX12_addState_289 rfl (by decide) rfl tw1226 (by decide) qs188 qw188_43 (by decide) ?_
      refine q_iload dX12_addState_292 rfl ?_
      refine q_aload_n dX12_addState_294 rfl rfl ?_
      refine qx_getI (ci := 12) (k := 42) (v := ((mem 188 42) + 1)) dX12_addState_295 rfl rfl rfl tw1225 rfl qs188 q_up_s ?_
      refine q_iast dX12_addState_298 qs215 ((o4 c1 c2).2).1 ((o4 c1 c2).2).2 ?_
      refine qx_iconst dX12_addState_299 rfl rfl ?_
      exact q_zret dX12_addState_300 (by decide) (qK_i (l5 c1 c2))
  · skip
    refine q_aload_n dX12_addState_201 rfl rfl ?_
    refine q_getR (ci := 12) (k := 38) dX12_addState_202 rfl (by decide) rfl tw1221 (by decide) qs188 qw188_38 (by decide) ?_
    refine qx_bipush dX12_addState_205 rfl rfl ?_
    refine q_aload_n dX12_addState_207 rfl rfl ?_
    refine qx_getI (ci := 12) (k := 42) (v := (mem 188 42)) dX12_addState_208 rfl rfl rfl tw1225 rfl qs188 rfl ?_
    refine qx_imul dX12_addState_211 (o6 c1).1 ?_
    refine qx_bipush dX12_addState_212 rfl rfl ?_
    refine qx_iadd dX12_addState_214 (o6 c1).2.1 ?_
    refine q_iload dX12_addState_215 rfl ?_
    refine qx_iadd dX12_addState_217 (o6 c1).2.2.1 ?_
    refine q_aload_n dX12_addState_218 rfl rfl ?_
    refine q_getR (ci := 12) (k := 44) dX12_addState_219 rfl (by decide) rfl tw1227 (by decide) qs188 qw188_44 (by decide) ?_
    refine q_iload dX12_addState_222 rfl ?_
    refine qx_iald (v := (mem 216 v5)) dX12_addState_224 qs216 (o6 c1).2.2.2.1 rfl ?_
    refine q_iast dX12_addState_225 qs211 ((o6 c1).2.2.2.2.1).1 ((o6 c1).2.2.2.2.1).2 ?_
    refine qx_iinc (L' := [(2, 188), (0, v), (0, w), (0, v3), (0, v4), (0, (v5 + 1)), (0, v6), (4, 0)]) dX12_addState_226 rfl rfl rfl (o6 c1).2.2.2.2.2 rfl ?_
    refine q_goto (tgt := 194) dX12_addState_229 (by decide) ?_
    exact l7 c1
