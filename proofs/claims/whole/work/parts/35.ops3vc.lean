theorem dX11_dropsOf_0 : decode cX11_dropsOf 0 = .ok (.iconst 0, 1) := by decide +kernel
theorem dX11_dropsOf_1 : decode cX11_dropsOf 1 = .ok (.istore_n 3, 1) := by decide +kernel
theorem dX11_dropsOf_2 : decode cX11_dropsOf 2 = .ok (.iconst 0, 1) := by decide +kernel
theorem dX11_dropsOf_3 : decode cX11_dropsOf 3 = .ok (.istore 4, 2) := by decide +kernel
theorem dX11_dropsOf_5 : decode cX11_dropsOf 5 = .ok (.iload 4, 2) := by decide +kernel
theorem dX11_dropsOf_7 : decode cX11_dropsOf 7 = .ok (.aload_n 0, 1) := by decide +kernel
theorem dX11_dropsOf_8 : decode cX11_dropsOf 8 = .ok (.getfield 10, 3) := by decide +kernel
theorem dX11_dropsOf_11 : decode cX11_dropsOf 11 = .ok (.getfield 173, 3) := by decide +kernel
theorem dX11_dropsOf_14 : decode cX11_dropsOf 14 = .ok (.if_icmp .ge 34, 3) := by decide +kernel
theorem dX11_dropsOf_17 : decode cX11_dropsOf 17 = .ok (.iload_n 3, 1) := by decide +kernel
theorem dX11_dropsOf_18 : decode cX11_dropsOf 18 = .ok (.aload_n 0, 1) := by decide +kernel
theorem dX11_dropsOf_19 : decode cX11_dropsOf 19 = .ok (.getfield 10, 3) := by decide +kernel
theorem dX11_dropsOf_22 : decode cX11_dropsOf 22 = .ok (.getfield 151, 3) := by decide +kernel
theorem dX11_dropsOf_25 : decode cX11_dropsOf 25 = .ok (.iload 4, 2) := by decide +kernel
theorem dX11_dropsOf_27 : decode cX11_dropsOf 27 = .ok (.iaload, 1) := by decide +kernel
theorem dX11_dropsOf_28 : decode cX11_dropsOf 28 = .ok (.iload_n 1, 1) := by decide +kernel
theorem dX11_dropsOf_29 : decode cX11_dropsOf 29 = .ok (.if_icmp .ne 10, 3) := by decide +kernel
theorem dX11_dropsOf_32 : decode cX11_dropsOf 32 = .ok (.aload_n 2, 1) := by decide +kernel
theorem dX11_dropsOf_33 : decode cX11_dropsOf 33 = .ok (.iload 4, 2) := by decide +kernel
theorem dX11_dropsOf_35 : decode cX11_dropsOf 35 = .ok (.iaload, 1) := by decide +kernel
theorem dX11_dropsOf_36 : decode cX11_dropsOf 36 = .ok (.goto 4, 3) := by decide +kernel
theorem dX11_dropsOf_39 : decode cX11_dropsOf 39 = .ok (.iconst 0, 1) := by decide +kernel
theorem dX11_dropsOf_40 : decode cX11_dropsOf 40 = .ok (.iadd, 1) := by decide +kernel
theorem dX11_dropsOf_41 : decode cX11_dropsOf 41 = .ok (.istore_n 3, 1) := by decide +kernel
theorem dX11_dropsOf_42 : decode cX11_dropsOf 42 = .ok (.iinc 4 1, 3) := by decide +kernel
theorem dX11_dropsOf_45 : decode cX11_dropsOf 45 = .ok (.goto (-40), 3) := by decide +kernel
theorem dX11_dropsOf_48 : decode cX11_dropsOf 48 = .ok (.iload_n 3, 1) := by decide +kernel
theorem dX11_dropsOf_49 : decode cX11_dropsOf 49 = .ok (.ireturn, 1) := by decide +kernel
theorem bkX11_dropsOf_0 {b : Int} {mem : qm} {Q : Int → qm → Prop}
    {w c : Int}
    (hc : q_sh0[c.toNat]? = some (0, 9))
    (l1 : q_At yX11_dropsOf cX11_dropsOf 5 (some .int) 1 0 0 (qK (q_rb b) Q) 5 [(2, 0), (0, w), (2, c), (0, 0), (0, 0)] [] (q_sh0, q_rb b, mem)) :
    q_At yX11_dropsOf cX11_dropsOf 5 (some .int) 1 0 0 (qK (q_rb b) Q) 0 [(2, 0), (0, w), (2, c), (4, 0), (4, 0)] [] (q_sh0, q_rb b, mem) := by
  refine qx_iconst dX11_dropsOf_0 rfl rfl ?_
  refine qx_istore_n (L' := [(2, 0), (0, w), (2, c), (0, 0), (4, 0)]) dX11_dropsOf_1 rfl rfl rfl rfl ?_
  refine qx_iconst dX11_dropsOf_2 rfl rfl ?_
  refine qx_istore (L' := [(2, 0), (0, w), (2, c), (0, 0), (0, 0)]) dX11_dropsOf_3 rfl rfl rfl ?_
  exact l1
theorem bkX11_dropsOf_5 {b : Int} {mem : qm} {Q : Int → qm → Prop}
    {w v3 v4 c : Int}
    (hc : q_sh0[c.toNat]? = some (0, 9))
    (l1 : (mem 1 3) ≤ v4 → Q v3 mem)
    (o2 : v4 < (mem 1 3) → (0 ≤ v4 ∧ v4 < 9))
    (o3 : v4 < (mem 1 3) → (mem 3 v4) ≠ w → q_in32 (v3 + 0) ∧ q_in32 (v4 + 1))
    (l4 : v4 < (mem 1 3) → (mem 3 v4) ≠ w → q_At yX11_dropsOf cX11_dropsOf 5 (some .int) 1 0 0 (qK (q_rb b) Q) 5 [(2, 0), (0, w), (2, c), (0, (v3 + 0)), (0, (v4 + 1))] [] (q_sh0, q_rb b, mem))
    (o5 : v4 < (mem 1 3) → (mem 3 v4) = w → q_in32 (v3 + (mem c v4)) ∧ q_in32 (v4 + 1))
    (l6 : v4 < (mem 1 3) → (mem 3 v4) = w → q_At yX11_dropsOf cX11_dropsOf 5 (some .int) 1 0 0 (qK (q_rb b) Q) 5 [(2, 0), (0, w), (2, c), (0, (v3 + (mem c v4))), (0, (v4 + 1))] [] (q_sh0, q_rb b, mem)) :
    q_At yX11_dropsOf cX11_dropsOf 5 (some .int) 1 0 0 (qK (q_rb b) Q) 5 [(2, 0), (0, w), (2, c), (0, v3), (0, v4)] [] (q_sh0, q_rb b, mem) := by
  refine q_iload dX11_dropsOf_5 rfl ?_
  refine q_aload_n dX11_dropsOf_7 rfl rfl ?_
  refine q_getR (ci := 11) (k := 0) dX11_dropsOf_8 rfl (by decide) rfl tw349 (by decide) qs0 qw0_0 (by decide) ?_
  refine qx_getI (ci := 9) (k := 3) (v := (mem 1 3)) dX11_dropsOf_11 rfl rfl rfl tw53 rfl qs1 rfl ?_
  refine qx_icmp_ge (tgt := 48) dX11_dropsOf_14 (by decide) (fun c1 => ?_) (fun c1 => ?_)
  · skip
    refine q_iload_n dX11_dropsOf_48 rfl rfl ?_
    exact q_iret dX11_dropsOf_49 (qK_i (l1 c1))
  · skip
    refine q_iload_n dX11_dropsOf_17 rfl rfl ?_
    refine q_aload_n dX11_dropsOf_18 rfl rfl ?_
    refine q_getR (ci := 11) (k := 0) dX11_dropsOf_19 rfl (by decide) rfl tw349 (by decide) qs0 qw0_0 (by decide) ?_
    refine q_getR (ci := 9) (k := 1) dX11_dropsOf_22 rfl (by decide) rfl tw43 (by decide) qs1 qw1_1 (by decide) ?_
    refine q_iload dX11_dropsOf_25 rfl ?_
    refine qx_iald (v := (mem 3 v4)) dX11_dropsOf_27 qs3 (o2 c1) rfl ?_
    refine q_iload_n dX11_dropsOf_28 rfl rfl ?_
    refine qx_icmp_ne (tgt := 39) dX11_dropsOf_29 (by decide) (fun c2 => ?_) (fun c2 => ?_)
    · skip
      refine qx_iconst dX11_dropsOf_39 rfl rfl ?_
      refine qx_iadd dX11_dropsOf_40 (o3 c1 c2).1 ?_
      refine qx_istore_n (L' := [(2, 0), (0, w), (2, c), (0, (v3 + 0)), (0, v4)]) dX11_dropsOf_41 rfl rfl rfl rfl ?_
      refine qx_iinc (L' := [(2, 0), (0, w), (2, c), (0, (v3 + 0)), (0, (v4 + 1))]) dX11_dropsOf_42 rfl rfl rfl (o3 c1 c2).2 rfl ?_
      refine q_goto (tgt := 5) dX11_dropsOf_45 (by decide) ?_
      exact l4 c1 c2
    · skip
      refine q_aload_n dX11_dropsOf_32 rfl rfl ?_
      refine q_iload dX11_dropsOf_33 rfl ?_
      refine qx_iald (v := (mem c v4)) dX11_dropsOf_35 hc (o2 c1) rfl ?_
      refine q_goto (tgt := 40) dX11_dropsOf_36 (by decide) ?_
      refine qx_iadd dX11_dropsOf_40 (o5 c1 c2).1 ?_
      refine qx_istore_n (L' := [(2, 0), (0, w), (2, c), (0, (v3 + (mem c v4))), (0, v4)]) dX11_dropsOf_41 rfl rfl rfl rfl ?_
      refine qx_iinc (L' := [(2, 0), (0, w), (2, c), (0, (v3 + (mem c v4))), (0, (v4 + 1))]) dX11_dropsOf_42 rfl rfl rfl (o5 c1 c2).2 rfl ?_
      refine q_goto (tgt := 5) dX11_dropsOf_45 (by decide) ?_
      exact l6 c1 c2
theorem dX11_roomOf_0 : decode cX11_roomOf 0 = .ok (.iconst 0, 1) := by decide +kernel
theorem dX11_roomOf_1 : decode cX11_roomOf 1 = .ok (.istore_n 3, 1) := by decide +kernel
theorem dX11_roomOf_2 : decode cX11_roomOf 2 = .ok (.iconst 0, 1) := by decide +kernel
theorem dX11_roomOf_3 : decode cX11_roomOf 3 = .ok (.istore 4, 2) := by decide +kernel
theorem dX11_roomOf_5 : decode cX11_roomOf 5 = .ok (.iload 4, 2) := by decide +kernel
theorem dX11_roomOf_7 : decode cX11_roomOf 7 = .ok (.aload_n 0, 1) := by decide +kernel
theorem dX11_roomOf_8 : decode cX11_roomOf 8 = .ok (.getfield 10, 3) := by decide +kernel
theorem dX11_roomOf_11 : decode cX11_roomOf 11 = .ok (.getfield 173, 3) := by decide +kernel
theorem dX11_roomOf_14 : decode cX11_roomOf 14 = .ok (.if_icmp .ge 45, 3) := by decide +kernel
theorem dX11_roomOf_17 : decode cX11_roomOf 17 = .ok (.iload_n 3, 1) := by decide +kernel
theorem dX11_roomOf_18 : decode cX11_roomOf 18 = .ok (.aload_n 0, 1) := by decide +kernel
theorem dX11_roomOf_19 : decode cX11_roomOf 19 = .ok (.getfield 10, 3) := by decide +kernel
theorem dX11_roomOf_22 : decode cX11_roomOf 22 = .ok (.getfield 151, 3) := by decide +kernel
theorem dX11_roomOf_25 : decode cX11_roomOf 25 = .ok (.iload 4, 2) := by decide +kernel
theorem dX11_roomOf_27 : decode cX11_roomOf 27 = .ok (.iaload, 1) := by decide +kernel
theorem dX11_roomOf_28 : decode cX11_roomOf 28 = .ok (.iload_n 1, 1) := by decide +kernel
theorem dX11_roomOf_29 : decode cX11_roomOf 29 = .ok (.if_icmp .ne 21, 3) := by decide +kernel
theorem dX11_roomOf_32 : decode cX11_roomOf 32 = .ok (.aload_n 0, 1) := by decide +kernel
theorem dX11_roomOf_33 : decode cX11_roomOf 33 = .ok (.getfield 10, 3) := by decide +kernel
theorem dX11_roomOf_36 : decode cX11_roomOf 36 = .ok (.getfield 145, 3) := by decide +kernel
theorem dX11_roomOf_39 : decode cX11_roomOf 39 = .ok (.iload 4, 2) := by decide +kernel
theorem dX11_roomOf_41 : decode cX11_roomOf 41 = .ok (.iaload, 1) := by decide +kernel
theorem dX11_roomOf_42 : decode cX11_roomOf 42 = .ok (.aload_n 2, 1) := by decide +kernel
theorem dX11_roomOf_43 : decode cX11_roomOf 43 = .ok (.iload 4, 2) := by decide +kernel
theorem dX11_roomOf_45 : decode cX11_roomOf 45 = .ok (.iaload, 1) := by decide +kernel
theorem dX11_roomOf_46 : decode cX11_roomOf 46 = .ok (.isub, 1) := by decide +kernel
theorem dX11_roomOf_47 : decode cX11_roomOf 47 = .ok (.goto 4, 3) := by decide +kernel
theorem dX11_roomOf_50 : decode cX11_roomOf 50 = .ok (.iconst 0, 1) := by decide +kernel
theorem dX11_roomOf_51 : decode cX11_roomOf 51 = .ok (.iadd, 1) := by decide +kernel
theorem dX11_roomOf_52 : decode cX11_roomOf 52 = .ok (.istore_n 3, 1) := by decide +kernel
theorem dX11_roomOf_53 : decode cX11_roomOf 53 = .ok (.iinc 4 1, 3) := by decide +kernel
theorem dX11_roomOf_56 : decode cX11_roomOf 56 = .ok (.goto (-51), 3) := by decide +kernel
theorem dX11_roomOf_59 : decode cX11_roomOf 59 = .ok (.iload_n 3, 1) := by decide +kernel
theorem dX11_roomOf_60 : decode cX11_roomOf 60 = .ok (.ireturn, 1) := by decide +kernel
theorem bkX11_roomOf_0 {b : Int} {mem : qm} {Q : Int → qm → Prop}
    {w c : Int}
    (hc : q_sh0[c.toNat]? = some (0, 9))
    (l1 : q_At yX11_roomOf cX11_roomOf 5 (some .int) 1 0 0 (qK (q_rb b) Q) 5 [(2, 0), (0, w), (2, c), (0, 0), (0, 0)] [] (q_sh0, q_rb b, mem)) :
    q_At yX11_roomOf cX11_roomOf 5 (some .int) 1 0 0 (qK (q_rb b) Q) 0 [(2, 0), (0, w), (2, c), (4, 0), (4, 0)] [] (q_sh0, q_rb b, mem) := by
  refine qx_iconst dX11_roomOf_0 rfl rfl ?_
  refine qx_istore_n (L' := [(2, 0), (0, w), (2, c), (0, 0), (4, 0)]) dX11_roomOf_1 rfl rfl rfl rfl ?_
  refine qx_iconst dX11_roomOf_2 rfl rfl ?_
  refine qx_istore (L' := [(2, 0), (0, w), (2, c), (0, 0), (0, 0)]) dX11_roomOf_3 rfl rfl rfl ?_
  exact l1
theorem bkX11_roomOf_5 {b : Int} {mem : qm} {Q : Int → qm → Prop}
    {w v3 v4 c : Int}
    (hc : q_sh0[c.toNat]? = some (0, 9))
    (l1 : (mem 1 3) ≤ v4 → Q v3 mem)
    (o2 : v4 < (mem 1 3) → (0 ≤ v4 ∧ v4 < 9))
    (o3 : v4 < (mem 1 3) → (mem 3 v4) ≠ w → q_in32 (v3 + 0) ∧ q_in32 (v4 + 1))
    (l4 : v4 < (mem 1 3) → (mem 3 v4) ≠ w → q_At yX11_roomOf cX11_roomOf 5 (some .int) 1 0 0 (qK (q_rb b) Q) 5 [(2, 0), (0, w), (2, c), (0, (v3 + 0)), (0, (v4 + 1))] [] (q_sh0, q_rb b, mem))
    (o5 : v4 < (mem 1 3) → (mem 3 v4) = w → q_in32 ((mem 2 v4) - (mem c v4)) ∧ q_in32 (v3 + ((mem 2 v4) - (mem c v4))) ∧ q_in32 (v4 + 1))
    (l6 : v4 < (mem 1 3) → (mem 3 v4) = w → q_At yX11_roomOf cX11_roomOf 5 (some .int) 1 0 0 (qK (q_rb b) Q) 5 [(2, 0), (0, w), (2, c), (0, (v3 + ((mem 2 v4) - (mem c v4)))), (0, (v4 + 1))] [] (q_sh0, q_rb b, mem)) :
    q_At yX11_roomOf cX11_roomOf 5 (some .int) 1 0 0 (qK (q_rb b) Q) 5 [(2, 0), (0, w), (2, c), (0, v3), (0, v4)] [] (q_sh0, q_rb b, mem) := by
  refine q_iload dX11_roomOf_5 rfl ?_
  refine q_aload_n dX11_roomOf_7 rfl rfl ?_
  refine q_getR (ci := 11) (k := 0) dX11_roomOf_8 rfl (by decide) rfl tw349 (by decide) qs0 qw0_0 (by decide) ?_
  refine qx_getI (ci := 9) (k := 3) (v := (mem 1 3)) dX11_roomOf_11 rfl rfl rfl tw53 rfl qs1 rfl ?_
  refine qx_icmp_ge (tgt := 59) dX11_roomOf_14 (by decide) (fun c1 => ?_) (fun c1 => ?_)
  · skip
    refine q_iload_n dX11_roomOf_59 rfl rfl ?_
    exact q_iret dX11_roomOf_60 (qK_i (l1 c1))
  · skip
    refine q_iload_n dX11_roomOf_17 rfl rfl ?_
    refine q_aload_n dX11_roomOf_18 rfl rfl ?_
    refine q_getR (ci := 11) (k := 0) dX11_roomOf_19 rfl (by decide) rfl tw349 (by decide) qs0 qw0_0 (by decide) ?_
    refine q_getR (ci := 9) (k := 1) dX11_roomOf_22 rfl (by decide) rfl tw43 (by decide) qs1 qw1_1 (by decide) ?_
    refine q_iload dX11_roomOf_25 rfl ?_
    refine qx_iald (v := (mem 3 v4)) dX11_roomOf_27 qs3 (o2 c1) rfl ?_
    refine q_iload_n dX11_roomOf_28 rfl rfl ?_
    refine qx_icmp_ne (tgt := 50) dX11_roomOf_29 (by decide) (fun c2 => ?_) (fun c2 => ?_)
    · skip
      refine qx_iconst dX11_roomOf_50 rfl rfl ?_
      refine qx_iadd dX11_roomOf_51 (o3 c1 c2).1 ?_
      refine qx_istore_n (L' := [(2, 0), (0, w), (2, c), (0, (v3 + 0)), (0, v4)]) dX11_roomOf_52 rfl rfl rfl rfl ?_
      refine qx_iinc (L' := [(2, 0), (0, w), (2, c), (0, (v3 + 0)), (0, (v4 + 1))]) dX11_roomOf_53 rfl rfl rfl (o3 c1 c2).2 rfl ?_
      refine q_goto (tgt := 5) dX11_roomOf_56 (by decide) ?_
      exact l4 c1 c2
    · skip
      refine q_aload_n dX11_roomOf_32 rfl rfl ?_
      refine q_getR (ci := 11) (k := 0) dX11_roomOf_33 rfl (by decide) rfl tw349 (by decide) qs0 qw0_0 (by decide) ?_
      refine q_getR (ci := 9) (k := 0) dX11_roomOf_36 rfl (by decide) rfl tw39 (by decide) qs1 qw1_0 (by decide) ?_
      refine q_iload dX11_roomOf_39 rfl ?_
      refine qx_iald (v := (mem 2 v4)) dX11_roomOf_41 qs2 (o2 c1) rfl ?_
      refine q_aload_n dX11_roomOf_42 rfl rfl ?_
      refine q_iload dX11_roomOf_43 rfl ?_
      refine qx_iald (v := (mem c v4)) dX11_roomOf_45 hc (o2 c1) rfl ?_
      refine qx_isub dX11_roomOf_46 (o5 c1 c2).1 ?_
      refine q_goto (tgt := 51) dX11_roomOf_47 (by decide) ?_
      refine qx_iadd dX11_roomOf_51 (o5 c1 c2).2.1 ?_
      refine qx_istore_n (L' := [(2, 0), (0, w), (2, c), (0, (v3 + ((mem 2 v4) - (mem c v4)))), (0, v4)]) dX11_roomOf_52 rfl rfl rfl rfl ?_
      refine qx_iinc (L' := [(2, 0), (0, w), (2, c), (0, (v3 + ((mem 2 v4) - (mem c v4)))), (0, (v4 + 1))]) dX11_roomOf_53 rfl rfl rfl (o5 c1 c2).2.2 rfl ?_
      refine q_goto (tgt := 5) dX11_roomOf_56 (by decide) ?_
      exact l6 c1 c2
theorem dX12_dropsOf_0 : decode cX12_dropsOf 0 = .ok (.iconst 0, 1) := by decide +kernel
theorem dX12_dropsOf_1 : decode cX12_dropsOf 1 = .ok (.istore_n 2, 1) := by decide +kernel
theorem dX12_dropsOf_2 : decode cX12_dropsOf 2 = .ok (.iconst 0, 1) := by decide +kernel
theorem dX12_dropsOf_3 : decode cX12_dropsOf 3 = .ok (.istore_n 3, 1) := by decide +kernel
theorem dX12_dropsOf_4 : decode cX12_dropsOf 4 = .ok (.iload_n 3, 1) := by decide +kernel
theorem dX12_dropsOf_5 : decode cX12_dropsOf 5 = .ok (.aload_n 0, 1) := by decide +kernel
theorem dX12_dropsOf_6 : decode cX12_dropsOf 6 = .ok (.getfield 134, 3) := by decide +kernel
theorem dX12_dropsOf_9 : decode cX12_dropsOf 9 = .ok (.if_icmp .ge 32, 3) := by decide +kernel
theorem dX12_dropsOf_12 : decode cX12_dropsOf 12 = .ok (.iload_n 2, 1) := by decide +kernel
theorem dX12_dropsOf_13 : decode cX12_dropsOf 13 = .ok (.aload_n 0, 1) := by decide +kernel
theorem dX12_dropsOf_14 : decode cX12_dropsOf 14 = .ok (.getfield 19, 3) := by decide +kernel
theorem dX12_dropsOf_17 : decode cX12_dropsOf 17 = .ok (.iload_n 3, 1) := by decide +kernel
theorem dX12_dropsOf_18 : decode cX12_dropsOf 18 = .ok (.iaload, 1) := by decide +kernel
theorem dX12_dropsOf_19 : decode cX12_dropsOf 19 = .ok (.iload_n 1, 1) := by decide +kernel
theorem dX12_dropsOf_20 : decode cX12_dropsOf 20 = .ok (.if_icmp .ne 12, 3) := by decide +kernel
theorem dX12_dropsOf_23 : decode cX12_dropsOf 23 = .ok (.aload_n 0, 1) := by decide +kernel
theorem dX12_dropsOf_24 : decode cX12_dropsOf 24 = .ok (.getfield 72, 3) := by decide +kernel
theorem dX12_dropsOf_27 : decode cX12_dropsOf 27 = .ok (.iload_n 3, 1) := by decide +kernel
theorem dX12_dropsOf_28 : decode cX12_dropsOf 28 = .ok (.iaload, 1) := by decide +kernel
theorem dX12_dropsOf_29 : decode cX12_dropsOf 29 = .ok (.goto 4, 3) := by decide +kernel
theorem dX12_dropsOf_32 : decode cX12_dropsOf 32 = .ok (.iconst 0, 1) := by decide +kernel
theorem dX12_dropsOf_33 : decode cX12_dropsOf 33 = .ok (.iadd, 1) := by decide +kernel
theorem dX12_dropsOf_34 : decode cX12_dropsOf 34 = .ok (.istore_n 2, 1) := by decide +kernel
theorem dX12_dropsOf_35 : decode cX12_dropsOf 35 = .ok (.iinc 3 1, 3) := by decide +kernel
theorem dX12_dropsOf_38 : decode cX12_dropsOf 38 = .ok (.goto (-34), 3) := by decide +kernel
theorem dX12_dropsOf_41 : decode cX12_dropsOf 41 = .ok (.iload_n 2, 1) := by decide +kernel
theorem dX12_dropsOf_42 : decode cX12_dropsOf 42 = .ok (.ireturn, 1) := by decide +kernel
theorem bkX12_dropsOf_0 {b : Int} {mem : qm} {Q : Int → qm → Prop}
    {w : Int}
    (l1 : q_At yX12_dropsOf cX12_dropsOf 4 (some .int) 1 0 0 (qK (q_rb b) Q) 4 [(2, 188), (0, w), (0, 0), (0, 0)] [] (q_sh0, q_rb b, mem)) :
    q_At yX12_dropsOf cX12_dropsOf 4 (some .int) 1 0 0 (qK (q_rb b) Q) 0 [(2, 188), (0, w), (4, 0), (4, 0)] [] (q_sh0, q_rb b, mem) := by
  refine qx_iconst dX12_dropsOf_0 rfl rfl ?_
  refine qx_istore_n (L' := [(2, 188), (0, w), (0, 0), (4, 0)]) dX12_dropsOf_1 rfl rfl rfl rfl ?_
  refine qx_iconst dX12_dropsOf_2 rfl rfl ?_
  refine qx_istore_n (L' := [(2, 188), (0, w), (0, 0), (0, 0)]) dX12_dropsOf_3 rfl rfl rfl rfl ?_
  exact l1
theorem bkX12_dropsOf_4 {b : Int} {mem : qm} {Q : Int → qm → Prop}
    {w v2 v3 : Int}
    (l1 : (mem 188 0) ≤ v3 → Q v2 mem)
    (o2 : v3 < (mem 188 0) → (0 ≤ v3 ∧ v3 < 9))
    (o3 : v3 < (mem 188 0) → (mem 192 v3) ≠ w → q_in32 (v2 + 0) ∧ q_in32 (v3 + 1))
    (l4 : v3 < (mem 188 0) → (mem 192 v3) ≠ w → q_At yX12_dropsOf cX12_dropsOf 4 (some .int) 1 0 0 (qK (q_rb b) Q) 4 [(2, 188), (0, w), (0, (v2 + 0)), (0, (v3 + 1))] [] (q_sh0, q_rb b, mem))
    (o5 : v3 < (mem 188 0) → (mem 192 v3) = w → q_in32 (v2 + (mem 207 v3)) ∧ q_in32 (v3 + 1))
    (l6 : v3 < (mem 188 0) → (mem 192 v3) = w → q_At yX12_dropsOf cX12_dropsOf 4 (some .int) 1 0 0 (qK (q_rb b) Q) 4 [(2, 188), (0, w), (0, (v2 + (mem 207 v3))), (0, (v3 + 1))] [] (q_sh0, q_rb b, mem)) :
    q_At yX12_dropsOf cX12_dropsOf 4 (some .int) 1 0 0 (qK (q_rb b) Q) 4 [(2, 188), (0, w), (0, v2), (0, v3)] [] (q_sh0, q_rb b, mem) := by
  refine q_iload_n dX12_dropsOf_4 rfl rfl ?_
  refine q_aload_n dX12_dropsOf_5 rfl rfl ?_
  refine qx_getI (ci := 12) (k := 0) (v := (mem 188 0)) dX12_dropsOf_6 rfl rfl rfl tw1183 rfl qs188 rfl ?_
  refine qx_icmp_ge (tgt := 41) dX12_dropsOf_9 (by decide) (fun c1 => ?_) (fun c1 => ?_)
  · skip
    refine q_iload_n dX12_dropsOf_41 rfl rfl ?_
    exact q_iret dX12_dropsOf_42 (qK_i (l1 c1))
  · skip
    refine q_iload_n dX12_dropsOf_12 rfl rfl ?_
    refine q_aload_n dX12_dropsOf_13 rfl rfl ?_
    refine q_getR (ci := 12) (k := 4) dX12_dropsOf_14 rfl (by decide) rfl tw1187 (by decide) qs188 qw188_4 (by decide) ?_
    refine q_iload_n dX12_dropsOf_17 rfl rfl ?_
    refine qx_iald (v := (mem 192 v3)) dX12_dropsOf_18 qs192 (o2 c1) rfl ?_
    refine q_iload_n dX12_dropsOf_19 rfl rfl ?_
    refine qx_icmp_ne (tgt := 32) dX12_dropsOf_20 (by decide) (fun c2 => ?_) (fun c2 => ?_)
    · skip
      refine qx_iconst dX12_dropsOf_32 rfl rfl ?_
      refine qx_iadd dX12_dropsOf_33 (o3 c1 c2).1 ?_
      refine qx_istore_n (L' := [(2, 188), (0, w), (0, (v2 + 0)), (0, v3)]) dX12_dropsOf_34 rfl rfl rfl rfl ?_
      refine qx_iinc (L' := [(2, 188), (0, w), (0, (v2 + 0)), (0, (v3 + 1))]) dX12_dropsOf_35 rfl rfl rfl (o3 c1 c2).2 rfl ?_
      refine q_goto (tgt := 4) dX12_dropsOf_38 (by decide) ?_
      exact l4 c1 c2
    · skip
      refine q_aload_n dX12_dropsOf_23 rfl rfl ?_
      refine q_getR (ci := 12) (k := 33) dX12_dropsOf_24 rfl (by decide) rfl tw1216 (by decide) qs188 qw188_33 (by decide) ?_
      refine q_iload_n dX12_dropsOf_27 rfl rfl ?_
      refine qx_iald (v := (mem 207 v3)) dX12_dropsOf_28 qs207 (o2 c1) rfl ?_
      refine q_goto (tgt := 33) dX12_dropsOf_29 (by decide) ?_
      refine qx_iadd dX12_dropsOf_33 (o5 c1 c2).1 ?_
      refine qx_istore_n (L' := [(2, 188), (0, w), (0, (v2 + (mem 207 v3))), (0, v3)]) dX12_dropsOf_34 rfl rfl rfl rfl ?_
      refine qx_iinc (L' := [(2, 188), (0, w), (0, (v2 + (mem 207 v3))), (0, (v3 + 1))]) dX12_dropsOf_35 rfl rfl rfl (o5 c1 c2).2 rfl ?_
      refine q_goto (tgt := 4) dX12_dropsOf_38 (by decide) ?_
      exact l6 c1 c2
theorem dX12_roomOf_0 : decode cX12_roomOf 0 = .ok (.iconst 0, 1) := by decide +kernel
theorem dX12_roomOf_1 : decode cX12_roomOf 1 = .ok (.istore_n 2, 1) := by decide +kernel
theorem dX12_roomOf_2 : decode cX12_roomOf 2 = .ok (.iconst 0, 1) := by decide +kernel
theorem dX12_roomOf_3 : decode cX12_roomOf 3 = .ok (.istore_n 3, 1) := by decide +kernel
theorem dX12_roomOf_4 : decode cX12_roomOf 4 = .ok (.iload_n 3, 1) := by decide +kernel
theorem dX12_roomOf_5 : decode cX12_roomOf 5 = .ok (.aload_n 0, 1) := by decide +kernel
theorem dX12_roomOf_6 : decode cX12_roomOf 6 = .ok (.getfield 134, 3) := by decide +kernel
theorem dX12_roomOf_9 : decode cX12_roomOf 9 = .ok (.if_icmp .ge 39, 3) := by decide +kernel
theorem dX12_roomOf_12 : decode cX12_roomOf 12 = .ok (.iload_n 2, 1) := by decide +kernel
theorem dX12_roomOf_13 : decode cX12_roomOf 13 = .ok (.aload_n 0, 1) := by decide +kernel
theorem dX12_roomOf_14 : decode cX12_roomOf 14 = .ok (.getfield 19, 3) := by decide +kernel
theorem dX12_roomOf_17 : decode cX12_roomOf 17 = .ok (.iload_n 3, 1) := by decide +kernel
theorem dX12_roomOf_18 : decode cX12_roomOf 18 = .ok (.iaload, 1) := by decide +kernel
theorem dX12_roomOf_19 : decode cX12_roomOf 19 = .ok (.iload_n 1, 1) := by decide +kernel
theorem dX12_roomOf_20 : decode cX12_roomOf 20 = .ok (.if_icmp .ne 19, 3) := by decide +kernel
theorem dX12_roomOf_23 : decode cX12_roomOf 23 = .ok (.aload_n 0, 1) := by decide +kernel
theorem dX12_roomOf_24 : decode cX12_roomOf 24 = .ok (.getfield 9, 3) := by decide +kernel
theorem dX12_roomOf_27 : decode cX12_roomOf 27 = .ok (.iload_n 3, 1) := by decide +kernel
theorem dX12_roomOf_28 : decode cX12_roomOf 28 = .ok (.iaload, 1) := by decide +kernel
theorem dX12_roomOf_29 : decode cX12_roomOf 29 = .ok (.aload_n 0, 1) := by decide +kernel
theorem dX12_roomOf_30 : decode cX12_roomOf 30 = .ok (.getfield 72, 3) := by decide +kernel
theorem dX12_roomOf_33 : decode cX12_roomOf 33 = .ok (.iload_n 3, 1) := by decide +kernel
theorem dX12_roomOf_34 : decode cX12_roomOf 34 = .ok (.iaload, 1) := by decide +kernel
theorem dX12_roomOf_35 : decode cX12_roomOf 35 = .ok (.isub, 1) := by decide +kernel
theorem dX12_roomOf_36 : decode cX12_roomOf 36 = .ok (.goto 4, 3) := by decide +kernel
theorem dX12_roomOf_39 : decode cX12_roomOf 39 = .ok (.iconst 0, 1) := by decide +kernel
theorem dX12_roomOf_40 : decode cX12_roomOf 40 = .ok (.iadd, 1) := by decide +kernel
theorem dX12_roomOf_41 : decode cX12_roomOf 41 = .ok (.istore_n 2, 1) := by decide +kernel
theorem dX12_roomOf_42 : decode cX12_roomOf 42 = .ok (.iinc 3 1, 3) := by decide +kernel
theorem dX12_roomOf_45 : decode cX12_roomOf 45 = .ok (.goto (-41), 3) := by decide +kernel
theorem dX12_roomOf_48 : decode cX12_roomOf 48 = .ok (.iload_n 2, 1) := by decide +kernel
theorem dX12_roomOf_49 : decode cX12_roomOf 49 = .ok (.ireturn, 1) := by decide +kernel
theorem bkX12_roomOf_0 {b : Int} {mem : qm} {Q : Int → qm → Prop}
    {w : Int}
    (l1 : q_At yX12_roomOf cX12_roomOf 4 (some .int) 1 0 0 (qK (q_rb b) Q) 4 [(2, 188), (0, w), (0, 0), (0, 0)] [] (q_sh0, q_rb b, mem)) :
    q_At yX12_roomOf cX12_roomOf 4 (some .int) 1 0 0 (qK (q_rb b) Q) 0 [(2, 188), (0, w), (4, 0), (4, 0)] [] (q_sh0, q_rb b, mem) := by
  refine qx_iconst dX12_roomOf_0 rfl rfl ?_
  refine qx_istore_n (L' := [(2, 188), (0, w), (0, 0), (4, 0)]) dX12_roomOf_1 rfl rfl rfl rfl ?_
  refine qx_iconst dX12_roomOf_2 rfl rfl ?_
  refine qx_istore_n (L' := [(2, 188), (0, w), (0, 0), (0, 0)]) dX12_roomOf_3 rfl rfl rfl rfl ?_
  exact l1
theorem bkX12_roomOf_4 {b : Int} {mem : qm} {Q : Int → qm → Prop}
    {w v2 v3 : Int}
    (l1 : (mem 188 0) ≤ v3 → Q v2 mem)
    (o2 : v3 < (mem 188 0) → (0 ≤ v3 ∧ v3 < 9))
    (o3 : v3 < (mem 188 0) → (mem 192 v3) ≠ w → q_in32 (v2 + 0) ∧ q_in32 (v3 + 1))
    (l4 : v3 < (mem 188 0) → (mem 192 v3) ≠ w → q_At yX12_roomOf cX12_roomOf 4 (some .int) 1 0 0 (qK (q_rb b) Q) 4 [(2, 188), (0, w), (0, (v2 + 0)), (0, (v3 + 1))] [] (q_sh0, q_rb b, mem))
    (o5 : v3 < (mem 188 0) → (mem 192 v3) = w → q_in32 ((mem 189 v3) - (mem 207 v3)) ∧ q_in32 (v2 + ((mem 189 v3) - (mem 207 v3))) ∧ q_in32 (v3 + 1))
    (l6 : v3 < (mem 188 0) → (mem 192 v3) = w → q_At yX12_roomOf cX12_roomOf 4 (some .int) 1 0 0 (qK (q_rb b) Q) 4 [(2, 188), (0, w), (0, (v2 + ((mem 189 v3) - (mem 207 v3)))), (0, (v3 + 1))] [] (q_sh0, q_rb b, mem)) :
    q_At yX12_roomOf cX12_roomOf 4 (some .int) 1 0 0 (qK (q_rb b) Q) 4 [(2, 188), (0, w), (0, v2), (0, v3)] [] (q_sh0, q_rb b, mem) := by
  refine q_iload_n dX12_roomOf_4 rfl rfl ?_
  refine q_aload_n dX12_roomOf_5 rfl rfl ?_
  refine qx_getI (ci := 12) (k := 0) (v := (mem 188 0)) dX12_roomOf_6 rfl rfl rfl tw1183 rfl qs188 rfl ?_
  refine qx_icmp_ge (tgt := 48) dX12_roomOf_9 (by decide) (fun c1 => ?_) (fun c1 => ?_)
  · skip
    refine q_iload_n dX12_roomOf_48 rfl rfl ?_
    exact q_iret dX12_roomOf_49 (qK_i (l1 c1))
  · skip
    refine q_iload_n dX12_roomOf_12 rfl rfl ?_
    refine q_aload_n dX12_roomOf_13 rfl rfl ?_
    refine q_getR (ci := 12) (k := 4) dX12_roomOf_14 rfl (by decide) rfl tw1187 (by decide) qs188 qw188_4 (by decide) ?_
    refine q_iload_n dX12_roomOf_17 rfl rfl ?_
    refine qx_iald (v := (mem 192 v3)) dX12_roomOf_18 qs192 (o2 c1) rfl ?_
    refine q_iload_n dX12_roomOf_19 rfl rfl ?_
    refine qx_icmp_ne (tgt := 39) dX12_roomOf_20 (by decide) (fun c2 => ?_) (fun c2 => ?_)
    · skip
      refine qx_iconst dX12_roomOf_39 rfl rfl ?_
      refine qx_iadd dX12_roomOf_40 (o3 c1 c2).1 ?_
      refine qx_istore_n (L' := [(2, 188), (0, w), (0, (v2 + 0)), (0, v3)]) dX12_roomOf_41 rfl rfl rfl rfl ?_
      refine qx_iinc (L' := [(2, 188), (0, w), (0, (v2 + 0)), (0, (v3 + 1))]) dX12_roomOf_42 rfl rfl rfl (o3 c1 c2).2 rfl ?_
      refine q_goto (tgt := 4) dX12_roomOf_45 (by decide) ?_
      exact l4 c1 c2
    · skip
      refine q_aload_n dX12_roomOf_23 rfl rfl ?_
      refine q_getR (ci := 12) (k := 1) dX12_roomOf_24 rfl (by decide) rfl tw1184 (by decide) qs188 qw188_1 (by decide) ?_
      refine q_iload_n dX12_roomOf_27 rfl rfl ?_
      refine qx_iald (v := (mem 189 v3)) dX12_roomOf_28 qs189 (o2 c1) rfl ?_
      refine q_aload_n dX12_roomOf_29 rfl rfl ?_
      refine q_getR (ci := 12) (k := 33) dX12_roomOf_30 rfl (by decide) rfl tw1216 (by decide) qs188 qw188_33 (by decide) ?_
      refine q_iload_n dX12_roomOf_33 rfl rfl ?_
      refine qx_iald (v := (mem 207 v3)) dX12_roomOf_34 qs207 (o2 c1) rfl ?_
      refine qx_isub dX12_roomOf_35 (o5 c1 c2).1 ?_
      refine q_goto (tgt := 40) dX12_roomOf_36 (by decide) ?_
      refine qx_iadd dX12_roomOf_40 (o5 c1 c2).2.1 ?_
      refine qx_istore_n (L' := [(2, 188), (0, w), (0, (v2 + ((mem 189 v3) - (mem 207 v3)))), (0, v3)]) dX12_roomOf_41 rfl rfl rfl rfl ?_
      refine qx_iinc (L' := [(2, 188), (0, w), (0, (v2 + ((mem 189 v3) - (mem 207 v3)))), (0, (v3 + 1))]) dX12_roomOf_42 rfl rfl rfl (o5 c1 c2).2.2 rfl ?_
      refine q_goto (tgt := 4) dX12_roomOf_45 (by decide) ?_
      exact l6 c1 c2
theorem dX11_couldPay_0 : decode cX11_couldPay 0 = .ok (.aload_n 0, 1) := by decide +kernel
theorem dX11_couldPay_1 : decode cX11_couldPay 1 = .ok (.getfield 19, 3) := by decide +kernel
theorem dX11_couldPay_4 : decode cX11_couldPay 4 = .ok (.getfield 279, 3) := by decide +kernel
theorem dX11_couldPay_7 : decode cX11_couldPay 7 = .ok (.iload_n 1, 1) := by decide +kernel
theorem dX11_couldPay_8 : decode cX11_couldPay 8 = .ok (.bipush 6, 2) := by decide +kernel
theorem dX11_couldPay_10 : decode cX11_couldPay 10 = .ok (.imul, 1) := by decide +kernel
theorem dX11_couldPay_11 : decode cX11_couldPay 11 = .ok (.iload_n 2, 1) := by decide +kernel
theorem dX11_couldPay_12 : decode cX11_couldPay 12 = .ok (.iadd, 1) := by decide +kernel
theorem dX11_couldPay_13 : decode cX11_couldPay 13 = .ok (.iaload, 1) := by decide +kernel
theorem dX11_couldPay_14 : decode cX11_couldPay 14 = .ok (.istore 4, 2) := by decide +kernel
theorem dX11_couldPay_16 : decode cX11_couldPay 16 = .ok (.aload_n 0, 1) := by decide +kernel
theorem dX11_couldPay_17 : decode cX11_couldPay 17 = .ok (.iload_n 1, 1) := by decide +kernel
theorem dX11_couldPay_18 : decode cX11_couldPay 18 = .ok (.aload_n 3, 1) := by decide +kernel
theorem dX11_couldPay_19 : decode cX11_couldPay 19 = .ok (.invokevirtual 339, 3) := by decide +kernel
theorem dX11_couldPay_22 : decode cX11_couldPay 22 = .ok (.iload 4, 2) := by decide +kernel
theorem dX11_couldPay_24 : decode cX11_couldPay 24 = .ok (.if_icmp .lt 18, 3) := by decide +kernel
theorem dX11_couldPay_27 : decode cX11_couldPay 27 = .ok (.aload_n 0, 1) := by decide +kernel
theorem dX11_couldPay_28 : decode cX11_couldPay 28 = .ok (.iload_n 2, 1) := by decide +kernel
theorem dX11_couldPay_29 : decode cX11_couldPay 29 = .ok (.aload_n 3, 1) := by decide +kernel
theorem dX11_couldPay_30 : decode cX11_couldPay 30 = .ok (.invokevirtual 343, 3) := by decide +kernel
theorem dX11_couldPay_33 : decode cX11_couldPay 33 = .ok (.iload 4, 2) := by decide +kernel
theorem dX11_couldPay_35 : decode cX11_couldPay 35 = .ok (.if_icmp .lt 7, 3) := by decide +kernel
theorem dX11_couldPay_38 : decode cX11_couldPay 38 = .ok (.iconst 1, 1) := by decide +kernel
theorem dX11_couldPay_39 : decode cX11_couldPay 39 = .ok (.goto 4, 3) := by decide +kernel
theorem dX11_couldPay_42 : decode cX11_couldPay 42 = .ok (.iconst 0, 1) := by decide +kernel
theorem dX11_couldPay_43 : decode cX11_couldPay 43 = .ok (.ireturn, 1) := by decide +kernel
theorem bkX11_couldPay_0 {b : Int} {mem : qm} {Q : Int → qm → Prop}
    {x y c : Int}
    (hc : q_sh0[c.toNat]? = some (0, 9))
    (o1 : q_in32 (x * 6) ∧ q_in32 ((x * 6) + y) ∧ (0 ≤ ((x * 6) + y) ∧ ((x * 6) + y) < 36))
    {P1 : Int → qm → Prop}
    (l2 : q_Ev yX11_dropsOf cX11_dropsOf 5 (some .int) 1 0 0 [(2, 0), (0, x), (2, c)] (q_sh0, q_rb b, mem) (qK (q_rb b) (P1)))
    (l3 : ∀ (r1 : Int), ∀ (m1 : qm), P1 r1 m1 → q_in32 r1 → r1 < (mem 12 ((x * 6) + y)) → Q 0 m1)
    {P3 : Int → qm → Int → qm → Prop}
    (l4 : ∀ (r1 : Int), ∀ (m1 : qm), P1 r1 m1 → q_in32 r1 → (mem 12 ((x * 6) + y)) ≤ r1 → q_Ev yX11_roomOf cX11_roomOf 5 (some .int) 1 0 0 [(2, 0), (0, y), (2, c)] (q_sh0, q_rb b, m1) (qK (q_rb b) (P3 r1 m1)))
    (l5 : ∀ (r1 : Int), ∀ (m1 : qm), P1 r1 m1 → q_in32 r1 → (mem 12 ((x * 6) + y)) ≤ r1 → ∀ (r3 : Int), ∀ (m3 : qm), P3 r1 m1 r3 m3 → q_in32 r3 → r3 < (mem 12 ((x * 6) + y)) → Q 0 m3)
    (l6 : ∀ (r1 : Int), ∀ (m1 : qm), P1 r1 m1 → q_in32 r1 → (mem 12 ((x * 6) + y)) ≤ r1 → ∀ (r3 : Int), ∀ (m3 : qm), P3 r1 m1 r3 m3 → q_in32 r3 → (mem 12 ((x * 6) + y)) ≤ r3 → Q 1 m3) :
    q_At yX11_couldPay cX11_couldPay 5 (some .boolean) 2 0 0 (qK (q_rb b) Q) 0 [(2, 0), (0, x), (0, y), (2, c), (4, 0)] [] (q_sh0, q_rb b, mem) := by
  refine q_aload_n dX11_couldPay_0 rfl rfl ?_
  refine q_getR (ci := 11) (k := 1) dX11_couldPay_1 rfl (by decide) rfl tw350 (by decide) qs0 qw0_1 (by decide) ?_
  refine q_getR (ci := 7) (k := 6) dX11_couldPay_4 rfl (by decide) rfl tw97 (by decide) qs5 qw5_6 (by decide) ?_
  refine q_iload_n dX11_couldPay_7 rfl rfl ?_
  refine qx_bipush dX11_couldPay_8 rfl rfl ?_
  refine qx_imul dX11_couldPay_10 (o1).1 ?_
  refine q_iload_n dX11_couldPay_11 rfl rfl ?_
  refine qx_iadd dX11_couldPay_12 (o1).2.1 ?_
  refine qx_iald (v := (mem 12 ((x * 6) + y))) dX11_couldPay_13 qs12 (o1).2.2 rfl ?_
  refine qx_istore (L' := [(2, 0), (0, x), (0, y), (2, c), (0, (mem 12 ((x * 6) + y)))]) dX11_couldPay_14 rfl rfl rfl ?_
  refine q_aload_n dX11_couldPay_16 rfl rfl ?_
  refine q_iload_n dX11_couldPay_17 rfl rfl ?_
  refine q_aload_n dX11_couldPay_18 rfl rfl ?_
  refine qx_invV (ci := 11) [(0, x), (2, c)] [(2, c), (0, x), (2, 0)] rfl qM_X11_dropsOf dX11_couldPay_19 tw926 rfl qs0 rfl rfl rfl rfl (l2) (fun r1 m1 p1 q1 => ?_)
  refine q_iload dX11_couldPay_22 rfl ?_
  refine qx_icmp_lt (tgt := 42) dX11_couldPay_24 (by decide) (fun c2 => ?_) (fun c2 => ?_)
  · skip
    refine qx_iconst dX11_couldPay_42 rfl rfl ?_
    exact q_zret dX11_couldPay_43 (by decide) (qK_i (l3 r1 m1 p1 q1 c2))
  · skip
    refine q_aload_n dX11_couldPay_27 rfl rfl ?_
    refine q_iload_n dX11_couldPay_28 rfl rfl ?_
    refine q_aload_n dX11_couldPay_29 rfl rfl ?_
    refine qx_invV (ci := 11) [(0, y), (2, c)] [(2, c), (0, y), (2, 0)] rfl qM_X11_roomOf dX11_couldPay_30 tw930 rfl qs0 rfl rfl rfl rfl (l4 r1 m1 p1 q1 c2) (fun r3 m3 p3 q3 => ?_)
    refine q_iload dX11_couldPay_33 rfl ?_
    refine qx_icmp_lt (tgt := 42) dX11_couldPay_35 (by decide) (fun c4 => ?_) (fun c4 => ?_)
    · skip
      refine qx_iconst dX11_couldPay_42 rfl rfl ?_
      exact q_zret dX11_couldPay_43 (by decide) (qK_i (l5 r1 m1 p1 q1 c2 r3 m3 p3 q3 c4))
    · skip
      refine qx_iconst dX11_couldPay_38 rfl rfl ?_
      refine q_goto (tgt := 43) dX11_couldPay_39 (by decide) ?_
      exact q_zret dX11_couldPay_43 (by decide) (qK_i (l6 r1 m1 p1 q1 c2 r3 m3 p3 q3 c4))
theorem dX12_canPay_0 : decode cX12_canPay 0 = .ok (.aload_n 0, 1) := by decide +kernel
theorem dX12_canPay_1 : decode cX12_canPay 1 = .ok (.getfield 34, 3) := by decide +kernel
theorem dX12_canPay_4 : decode cX12_canPay 4 = .ok (.bipush 6, 2) := by decide +kernel
theorem dX12_canPay_6 : decode cX12_canPay 6 = .ok (.iload_n 1, 1) := by decide +kernel
theorem dX12_canPay_7 : decode cX12_canPay 7 = .ok (.imul, 1) := by decide +kernel
theorem dX12_canPay_8 : decode cX12_canPay 8 = .ok (.iload_n 2, 1) := by decide +kernel
theorem dX12_canPay_9 : decode cX12_canPay 9 = .ok (.iadd, 1) := by decide +kernel
theorem dX12_canPay_10 : decode cX12_canPay 10 = .ok (.iaload, 1) := by decide +kernel
theorem dX12_canPay_11 : decode cX12_canPay 11 = .ok (.istore_n 3, 1) := by decide +kernel
theorem dX12_canPay_12 : decode cX12_canPay 12 = .ok (.aload_n 0, 1) := by decide +kernel
theorem dX12_canPay_13 : decode cX12_canPay 13 = .ok (.iload_n 1, 1) := by decide +kernel
theorem dX12_canPay_14 : decode cX12_canPay 14 = .ok (.invokevirtual 351, 3) := by decide +kernel
theorem dX12_canPay_17 : decode cX12_canPay 17 = .ok (.iload_n 3, 1) := by decide +kernel
theorem dX12_canPay_18 : decode cX12_canPay 18 = .ok (.if_icmp .lt 16, 3) := by decide +kernel
theorem dX12_canPay_21 : decode cX12_canPay 21 = .ok (.aload_n 0, 1) := by decide +kernel
theorem dX12_canPay_22 : decode cX12_canPay 22 = .ok (.iload_n 2, 1) := by decide +kernel
theorem dX12_canPay_23 : decode cX12_canPay 23 = .ok (.invokevirtual 354, 3) := by decide +kernel
theorem dX12_canPay_26 : decode cX12_canPay 26 = .ok (.iload_n 3, 1) := by decide +kernel
theorem dX12_canPay_27 : decode cX12_canPay 27 = .ok (.if_icmp .lt 7, 3) := by decide +kernel
theorem dX12_canPay_30 : decode cX12_canPay 30 = .ok (.iconst 1, 1) := by decide +kernel
theorem dX12_canPay_31 : decode cX12_canPay 31 = .ok (.goto 4, 3) := by decide +kernel
theorem dX12_canPay_34 : decode cX12_canPay 34 = .ok (.iconst 0, 1) := by decide +kernel
theorem dX12_canPay_35 : decode cX12_canPay 35 = .ok (.ireturn, 1) := by decide +kernel
theorem bkX12_canPay_0 {b : Int} {mem : qm} {Q : Int → qm → Prop}
    {x y : Int}
    (o1 : q_in32 (6 * x) ∧ q_in32 ((6 * x) + y) ∧ (0 ≤ ((6 * x) + y) ∧ ((6 * x) + y) < 36))
    {P1 : Int → qm → Prop}
    (l2 : q_Ev yX12_dropsOf cX12_dropsOf 4 (some .int) 1 0 0 [(2, 188), (0, x)] (q_sh0, q_rb b, mem) (qK (q_rb b) (P1)))
    (l3 : ∀ (r1 : Int), ∀ (m1 : qm), P1 r1 m1 → q_in32 r1 → r1 < (mem 197 ((6 * x) + y)) → Q 0 m1)
    {P3 : Int → qm → Int → qm → Prop}
    (l4 : ∀ (r1 : Int), ∀ (m1 : qm), P1 r1 m1 → q_in32 r1 → (mem 197 ((6 * x) + y)) ≤ r1 → q_Ev yX12_roomOf cX12_roomOf 4 (some .int) 1 0 0 [(2, 188), (0, y)] (q_sh0, q_rb b, m1) (qK (q_rb b) (P3 r1 m1)))
    (l5 : ∀ (r1 : Int), ∀ (m1 : qm), P1 r1 m1 → q_in32 r1 → (mem 197 ((6 * x) + y)) ≤ r1 → ∀ (r3 : Int), ∀ (m3 : qm), P3 r1 m1 r3 m3 → q_in32 r3 → r3 < (mem 197 ((6 * x) + y)) → Q 0 m3)
    (l6 : ∀ (r1 : Int), ∀ (m1 : qm), P1 r1 m1 → q_in32 r1 → (mem 197 ((6 * x) + y)) ≤ r1 → ∀ (r3 : Int), ∀ (m3 : qm), P3 r1 m1 r3 m3 → q_in32 r3 → (mem 197 ((6 * x) + y)) ≤ r3 → Q 1 m3) :
    q_At yX12_canPay cX12_canPay 4 (some .boolean) 2 0 0 (qK (q_rb b) Q) 0 [(2, 188), (0, x), (0, y), (4, 0)] [] (q_sh0, q_rb b, mem) := by
  refine q_aload_n dX12_canPay_0 rfl rfl ?_
  refine q_getR (ci := 12) (k := 9) dX12_canPay_1 rfl (by decide) rfl tw1192 (by decide) qs188 qw188_9 (by decide) ?_
  refine qx_bipush dX12_canPay_4 rfl rfl ?_
  refine q_iload_n dX12_canPay_6 rfl rfl ?_
  refine qx_imul dX12_canPay_7 (o1).1 ?_
  refine q_iload_n dX12_canPay_8 rfl rfl ?_
  refine qx_iadd dX12_canPay_9 (o1).2.1 ?_
  refine qx_iald (v := (mem 197 ((6 * x) + y))) dX12_canPay_10 qs197 (o1).2.2 rfl ?_
  refine qx_istore_n (L' := [(2, 188), (0, x), (0, y), (0, (mem 197 ((6 * x) + y)))]) dX12_canPay_11 rfl rfl rfl rfl ?_
  refine q_aload_n dX12_canPay_12 rfl rfl ?_
  refine q_iload_n dX12_canPay_13 rfl rfl ?_
  refine qx_invV (ci := 12) [(0, x)] [(0, x), (2, 188)] rfl qM_X12_dropsOf dX12_canPay_14 tw1647 rfl qs188 rfl rfl rfl rfl (l2) (fun r1 m1 p1 q1 => ?_)
  refine q_iload_n dX12_canPay_17 rfl rfl ?_
  refine qx_icmp_lt (tgt := 34) dX12_canPay_18 (by decide) (fun c2 => ?_) (fun c2 => ?_)
  · skip
    refine qx_iconst dX12_canPay_34 rfl rfl ?_
    exact q_zret dX12_canPay_35 (by decide) (qK_i (l3 r1 m1 p1 q1 c2))
  · skip
    refine q_aload_n dX12_canPay_21 rfl rfl ?_
    refine q_iload_n dX12_canPay_22 rfl rfl ?_
    refine qx_invV (ci := 12) [(0, y)] [(0, y), (2, 188)] rfl qM_X12_roomOf dX12_canPay_23 tw1651 rfl qs188 rfl rfl rfl rfl (l4 r1 m1 p1 q1 c2) (fun r3 m3 p3 q3 => ?_)
    refine q_iload_n dX12_canPay_26 rfl rfl ?_
    refine qx_icmp_lt (tgt := 34) dX12_canPay_27 (by decide) (fun c4 => ?_) (fun c4 => ?_)
    · skip
      refine qx_iconst dX12_canPay_34 rfl rfl ?_
      exact q_zret dX12_canPay_35 (by decide) (qK_i (l5 r1 m1 p1 q1 c2 r3 m3 p3 q3 c4))
    · skip
      refine qx_iconst dX12_canPay_30 rfl rfl ?_
      refine q_goto (tgt := 35) dX12_canPay_31 (by decide) ?_
      exact q_zret dX12_canPay_35 (by decide) (qK_i (l6 r1 m1 p1 q1 c2 r3 m3 p3 q3 c4))
theorem dX11_pays_0 : decode cX11_pays 0 = .ok (.iload_n 1, 1) := by decide +kernel
theorem dX11_pays_1 : decode cX11_pays 1 = .ok (.iload_n 2, 1) := by decide +kernel
theorem dX11_pays_2 : decode cX11_pays 2 = .ok (.invokestatic 276, 3) := by decide +kernel
theorem dX11_pays_5 : decode cX11_pays 5 = .ok (.ifCond .ne 5, 3) := by decide +kernel
theorem dX11_pays_8 : decode cX11_pays 8 = .ok (.iconst (-1), 1) := by decide +kernel
theorem dX11_pays_9 : decode cX11_pays 9 = .ok (.ireturn, 1) := by decide +kernel
theorem dX11_pays_10 : decode cX11_pays 10 = .ok (.aload_n 0, 1) := by decide +kernel
theorem dX11_pays_11 : decode cX11_pays 11 = .ok (.invokevirtual 223, 3) := by decide +kernel
theorem dX11_pays_14 : decode cX11_pays 14 = .ok (.aload_n 0, 1) := by decide +kernel
theorem dX11_pays_15 : decode cX11_pays 15 = .ok (.aload_n 0, 1) := by decide +kernel
theorem dX11_pays_16 : decode cX11_pays 16 = .ok (.iload_n 1, 1) := by decide +kernel
theorem dX11_pays_17 : decode cX11_pays 17 = .ok (.aload_n 0, 1) := by decide +kernel
theorem dX11_pays_18 : decode cX11_pays 18 = .ok (.getfield 19, 3) := by decide +kernel
theorem dX11_pays_21 : decode cX11_pays 21 = .ok (.getfield 142, 3) := by decide +kernel
theorem dX11_pays_24 : decode cX11_pays 24 = .ok (.invokevirtual 339, 3) := by decide +kernel
theorem dX11_pays_27 : decode cX11_pays 27 = .ok (.invokevirtual 229, 3) := by decide +kernel
theorem dX11_pays_30 : decode cX11_pays 30 = .ok (.aload_n 0, 1) := by decide +kernel
theorem dX11_pays_31 : decode cX11_pays 31 = .ok (.aload_n 0, 1) := by decide +kernel
theorem dX11_pays_32 : decode cX11_pays 32 = .ok (.iload_n 2, 1) := by decide +kernel
theorem dX11_pays_33 : decode cX11_pays 33 = .ok (.aload_n 0, 1) := by decide +kernel
theorem dX11_pays_34 : decode cX11_pays 34 = .ok (.getfield 19, 3) := by decide +kernel
theorem dX11_pays_37 : decode cX11_pays 37 = .ok (.getfield 142, 3) := by decide +kernel
theorem dX11_pays_40 : decode cX11_pays 40 = .ok (.invokevirtual 343, 3) := by decide +kernel
theorem dX11_pays_43 : decode cX11_pays 43 = .ok (.invokevirtual 229, 3) := by decide +kernel
theorem dX11_pays_46 : decode cX11_pays 46 = .ok (.aload_n 0, 1) := by decide +kernel
theorem dX11_pays_47 : decode cX11_pays 47 = .ok (.iload_n 1, 1) := by decide +kernel
theorem dX11_pays_48 : decode cX11_pays 48 = .ok (.iload_n 2, 1) := by decide +kernel
theorem dX11_pays_49 : decode cX11_pays 49 = .ok (.aload_n 0, 1) := by decide +kernel
theorem dX11_pays_50 : decode cX11_pays 50 = .ok (.getfield 19, 3) := by decide +kernel
theorem dX11_pays_53 : decode cX11_pays 53 = .ok (.getfield 142, 3) := by decide +kernel
theorem dX11_pays_56 : decode cX11_pays 56 = .ok (.invokevirtual 346, 3) := by decide +kernel
theorem dX11_pays_59 : decode cX11_pays 59 = .ok (.ifCond .eq 7, 3) := by decide +kernel
theorem dX11_pays_62 : decode cX11_pays 62 = .ok (.iconst 1, 1) := by decide +kernel
theorem dX11_pays_63 : decode cX11_pays 63 = .ok (.goto 4, 3) := by decide +kernel
theorem dX11_pays_66 : decode cX11_pays 66 = .ok (.iconst 0, 1) := by decide +kernel
theorem dX11_pays_67 : decode cX11_pays 67 = .ok (.ireturn, 1) := by decide +kernel
theorem bkX11_pays_0 {b : Int} {mem : qm} {Q : Int → qm → Prop}
    {x y : Int}
    {P3 : Int → qm → Prop}
    (l1 : ((0 ≤ x ∧ x < 6) ∧ (0 ≤ y ∧ y < 6) ∧ x ≠ y) → q_Ev yX11_dropsOf cX11_dropsOf 5 (some .int) 1 0 0 [(2, 0), (0, x), (2, 8)] (q_sh0, q_rb b, (q_up mem 0 16 0)) (qK (q_rb b) (P3)))
    (o2 : ((0 ≤ x ∧ x < 6) ∧ (0 ≤ y ∧ y < 6) ∧ x ≠ y) → ∀ (r3 : Int), ∀ (m3 : qm), P3 r3 m3 → q_in32 r3 → (0 ≤ (m3 0 16) ∧ (m3 0 16) < 10))
    {P5 : Int → qm → Int → qm → Prop}
    (l3 : ((0 ≤ x ∧ x < 6) ∧ (0 ≤ y ∧ y < 6) ∧ x ≠ y) → ∀ (r3 : Int), ∀ (m3 : qm), P3 r3 m3 → q_in32 r3 → q_Ev yX11_roomOf cX11_roomOf 5 (some .int) 1 0 0 [(2, 0), (0, y), (2, 8)] (q_sh0, q_rb b, (q_up (q_up m3 169 (m3 0 16) r3) 0 16 ((m3 0 16) + 1))) (qK (q_rb b) (P5 r3 m3)))
    (o4 : ((0 ≤ x ∧ x < 6) ∧ (0 ≤ y ∧ y < 6) ∧ x ≠ y) → ∀ (r3 : Int), ∀ (m3 : qm), P3 r3 m3 → q_in32 r3 → ∀ (r5 : Int), ∀ (m5 : qm), P5 r3 m3 r5 m5 → q_in32 r5 → (0 ≤ (m5 0 16) ∧ (m5 0 16) < 10))
    {P7 : Int → qm → Int → qm → Int → qm → Prop}
    (l5 : ((0 ≤ x ∧ x < 6) ∧ (0 ≤ y ∧ y < 6) ∧ x ≠ y) → ∀ (r3 : Int), ∀ (m3 : qm), P3 r3 m3 → q_in32 r3 → ∀ (r5 : Int), ∀ (m5 : qm), P5 r3 m3 r5 m5 → q_in32 r5 → q_Ev yX11_couldPay cX11_couldPay 5 (some .boolean) 2 0 0 [(2, 0), (0, x), (0, y), (2, 8)] (q_sh0, q_rb b, (q_up (q_up m5 169 (m5 0 16) r5) 0 16 ((m5 0 16) + 1))) (qK (q_rb b) (P7 r3 m3 r5 m5)))
    (l6 : ((0 ≤ x ∧ x < 6) ∧ (0 ≤ y ∧ y < 6) ∧ x ≠ y) → ∀ (r3 : Int), ∀ (m3 : qm), P3 r3 m3 → q_in32 r3 → ∀ (r5 : Int), ∀ (m5 : qm), P5 r3 m3 r5 m5 → q_in32 r5 → ∀ (r7 : Int), ∀ (m7 : qm), P7 r3 m3 r5 m5 r7 m7 → q_in32 r7 → r7 = 0 → Q 0 m7)
    (l7 : ((0 ≤ x ∧ x < 6) ∧ (0 ≤ y ∧ y < 6) ∧ x ≠ y) → ∀ (r3 : Int), ∀ (m3 : qm), P3 r3 m3 → q_in32 r3 → ∀ (r5 : Int), ∀ (m5 : qm), P5 r3 m3 r5 m5 → q_in32 r5 → ∀ (r7 : Int), ∀ (m7 : qm), P7 r3 m3 r5 m5 r7 m7 → q_in32 r7 → r7 ≠ 0 → Q 1 m7)
    (l8 : ¬ ((0 ≤ x ∧ x < 6) ∧ (0 ≤ y ∧ y < 6) ∧ x ≠ y) → Q (-1) mem) :
    q_At yX11_pays cX11_pays 3 (some .int) 3 0 0 (qK (q_rb b) Q) 0 [(2, 0), (0, x), (0, y)] [] (q_sh0, q_rb b, mem) := by
  refine q_iload_n dX11_pays_0 rfl rfl ?_
  refine q_iload_n dX11_pays_1 rfl rfl ?_
  refine qx_invS [(0, x), (0, y)] [(0, y), (0, x)] rfl qM_X11_areTwoOwners dX11_pays_2 tw760 rfl rfl rfl rfl (spX11_areTwoOwners) (fun r1 m1 p1 q1 => ?_)
  obtain ⟨p1e, ⟨p1f, p1⟩ | ⟨p1f, p1⟩⟩ := p1
  · rw [p1e, p1f]
    refine qx_if_ne (tgt := 10) dX11_pays_5 (by decide) (fun _ => ?_) (fun z => absurd z (by decide))
    refine q_aload_n dX11_pays_10 rfl rfl ?_
    refine qx_invV (ci := 11) [] [(2, 0)] rfl qM_X11_clearRow dX11_pays_11 tw691 rfl qs0 rfl rfl rfl rfl (spX11_clearRow) (fun r2 m2 p2 q2 => ?_)
    obtain rfl := p2
    refine q_aload_n dX11_pays_14 rfl rfl ?_
    refine q_aload_n dX11_pays_15 rfl rfl ?_
    refine q_iload_n dX11_pays_16 rfl rfl ?_
    refine q_aload_n dX11_pays_17 rfl rfl ?_
    refine q_getR (ci := 11) (k := 1) dX11_pays_18 rfl (by decide) rfl tw350 (by decide) qs0 qw0_1 (by decide) ?_
    refine q_getR (ci := 7) (k := 2) dX11_pays_21 rfl (by decide) rfl tw77 (by decide) qs5 qw5_2 (by decide) ?_
    refine qx_invV (ci := 11) [(0, x), (2, 8)] [(2, 8), (0, x), (2, 0), (2, 0)] rfl qM_X11_dropsOf dX11_pays_24 tw926 rfl qs0 rfl rfl rfl rfl (l1 p1) (fun r3 m3 p3 q3 => ?_)
    refine qx_invV (ci := 11) [(0, r3)] [(0, r3), (2, 0)] rfl qM_X11_tell dX11_pays_27 tw699 rfl qs0 rfl rfl rfl rfl (spX11_tell (o2 p1 r3 m3 p3 q3)) (fun r4 m4 p4 q4 => ?_)
    obtain rfl := p4
    refine q_aload_n dX11_pays_30 rfl rfl ?_
    refine q_aload_n dX11_pays_31 rfl rfl ?_
    refine q_iload_n dX11_pays_32 rfl rfl ?_
    refine q_aload_n dX11_pays_33 rfl rfl ?_
    refine q_getR (ci := 11) (k := 1) dX11_pays_34 rfl (by decide) rfl tw350 (by decide) qs0 qw0_1 (by decide) ?_
    refine q_getR (ci := 7) (k := 2) dX11_pays_37 rfl (by decide) rfl tw77 (by decide) qs5 qw5_2 (by decide) ?_
    refine qx_invV (ci := 11) [(0, y), (2, 8)] [(2, 8), (0, y), (2, 0), (2, 0)] rfl qM_X11_roomOf dX11_pays_40 tw930 rfl qs0 rfl rfl rfl rfl (l3 p1 r3 m3 p3 q3) (fun r5 m5 p5 q5 => ?_)
    refine qx_invV (ci := 11) [(0, r5)] [(0, r5), (2, 0)] rfl qM_X11_tell dX11_pays_43 tw699 rfl qs0 rfl rfl rfl rfl (spX11_tell (o4 p1 r3 m3 p3 q3 r5 m5 p5 q5)) (fun r6 m6 p6 q6 => ?_)
    obtain rfl := p6
    refine q_aload_n dX11_pays_46 rfl rfl ?_
    refine q_iload_n dX11_pays_47 rfl rfl ?_
    refine q_iload_n dX11_pays_48 rfl rfl ?_
    refine q_aload_n dX11_pays_49 rfl rfl ?_
    refine q_getR (ci := 11) (k := 1) dX11_pays_50 rfl (by decide) rfl tw350 (by decide) qs0 qw0_1 (by decide) ?_
    refine q_getR (ci := 7) (k := 2) dX11_pays_53 rfl (by decide) rfl tw77 (by decide) qs5 qw5_2 (by decide) ?_
    refine qx_invV (ci := 11) [(0, x), (0, y), (2, 8)] [(2, 8), (0, y), (0, x), (2, 0)] rfl qM_X11_couldPay dX11_pays_56 tw934 rfl qs0 rfl rfl rfl rfl (l5 p1 r3 m3 p3 q3 r5 m5 p5 q5) (fun r7 m7 p7 q7 => ?_)
    refine qx_if_eq (tgt := 66) dX11_pays_59 (by decide) (fun c8 => ?_) (fun c8 => ?_)
    · skip
      refine qx_iconst dX11_pays_66 rfl rfl ?_
      exact q_iret dX11_pays_67 (qK_i (l6 p1 r3 m3 p3 q3 r5 m5 p5 q5 r7 m7 p7 q7 c8))
    · skip
      refine qx_iconst dX11_pays_62 rfl rfl ?_
      refine q_goto (tgt := 67) dX11_pays_63 (by decide) ?_
      exact q_iret dX11_pays_67 (qK_i (l7 p1 r3 m3 p3 q3 r5 m5 p5 q5 r7 m7 p7 q7 c8))
  · rw [p1e, p1f]
    refine qx_if_ne (tgt := 10) dX11_pays_5 (by decide) (fun z => absurd z (by decide)) (fun _ => ?_)
    refine qx_iconst dX11_pays_8 rfl rfl ?_
    exact q_iret dX11_pays_9 (qK_i (l8 p1))
theorem dX12_pays_0 : decode cX12_pays 0 = .ok (.aload_n 0, 1) := by decide +kernel
theorem dX12_pays_1 : decode cX12_pays 1 = .ok (.iconst 0, 1) := by decide +kernel
theorem dX12_pays_2 : decode cX12_pays 2 = .ok (.putfield 128, 3) := by decide +kernel
theorem dX12_pays_5 : decode cX12_pays 5 = .ok (.iload_n 1, 1) := by decide +kernel
theorem dX12_pays_6 : decode cX12_pays 6 = .ok (.iload_n 2, 1) := by decide +kernel
theorem dX12_pays_7 : decode cX12_pays 7 = .ok (.invokestatic 303, 3) := by decide +kernel
theorem dX12_pays_10 : decode cX12_pays 10 = .ok (.ifCond .ne 5, 3) := by decide +kernel
theorem dX12_pays_13 : decode cX12_pays 13 = .ok (.iconst (-1), 1) := by decide +kernel
theorem dX12_pays_14 : decode cX12_pays 14 = .ok (.ireturn, 1) := by decide +kernel
theorem dX12_pays_15 : decode cX12_pays 15 = .ok (.aload_n 0, 1) := by decide +kernel
theorem dX12_pays_16 : decode cX12_pays 16 = .ok (.invokevirtual 312, 3) := by decide +kernel
theorem dX12_pays_19 : decode cX12_pays 19 = .ok (.aload_n 0, 1) := by decide +kernel
theorem dX12_pays_20 : decode cX12_pays 20 = .ok (.iconst 0, 1) := by decide +kernel
theorem dX12_pays_21 : decode cX12_pays 21 = .ok (.putfield 131, 3) := by decide +kernel
theorem dX12_pays_24 : decode cX12_pays 24 = .ok (.aload_n 0, 1) := by decide +kernel
theorem dX12_pays_25 : decode cX12_pays 25 = .ok (.aload_n 0, 1) := by decide +kernel
theorem dX12_pays_26 : decode cX12_pays 26 = .ok (.iload_n 1, 1) := by decide +kernel
theorem dX12_pays_27 : decode cX12_pays 27 = .ok (.invokevirtual 351, 3) := by decide +kernel
theorem dX12_pays_30 : decode cX12_pays 30 = .ok (.invokevirtual 276, 3) := by decide +kernel
theorem dX12_pays_33 : decode cX12_pays 33 = .ok (.aload_n 0, 1) := by decide +kernel
theorem dX12_pays_34 : decode cX12_pays 34 = .ok (.aload_n 0, 1) := by decide +kernel
theorem dX12_pays_35 : decode cX12_pays 35 = .ok (.iload_n 2, 1) := by decide +kernel
theorem dX12_pays_36 : decode cX12_pays 36 = .ok (.invokevirtual 354, 3) := by decide +kernel
theorem dX12_pays_39 : decode cX12_pays 39 = .ok (.invokevirtual 276, 3) := by decide +kernel
theorem dX12_pays_42 : decode cX12_pays 42 = .ok (.aload_n 0, 1) := by decide +kernel
theorem dX12_pays_43 : decode cX12_pays 43 = .ok (.iload_n 1, 1) := by decide +kernel
theorem dX12_pays_44 : decode cX12_pays 44 = .ok (.iload_n 2, 1) := by decide +kernel
theorem dX12_pays_45 : decode cX12_pays 45 = .ok (.invokevirtual 357, 3) := by decide +kernel
theorem dX12_pays_48 : decode cX12_pays 48 = .ok (.ifCond .eq 7, 3) := by decide +kernel
theorem dX12_pays_51 : decode cX12_pays 51 = .ok (.iconst 1, 1) := by decide +kernel
theorem dX12_pays_52 : decode cX12_pays 52 = .ok (.goto 4, 3) := by decide +kernel
theorem dX12_pays_55 : decode cX12_pays 55 = .ok (.iconst 0, 1) := by decide +kernel
theorem dX12_pays_56 : decode cX12_pays 56 = .ok (.ireturn, 1) := by decide +kernel
theorem bkX12_pays_0 {b : Int} {mem : qm} {Q : Int → qm → Prop}
    {x y : Int}
    {P2 : Int → qm → Prop}
    (l1 : ((0 ≤ x ∧ x ≤ 5) ∧ (0 ≤ y ∧ y ≤ 5) ∧ x ≠ y) → q_Ev yX12_begin_ cX12_begin_ 2 none 1 0 0 [(2, 188)] (q_sh0, q_rb b, (q_up mem 188 17 0)) (qK (q_rb b) (P2)))
    {P3 : Int → qm → Int → qm → Prop}
    (l2 : ((0 ≤ x ∧ x ≤ 5) ∧ (0 ≤ y ∧ y ≤ 5) ∧ x ≠ y) → ∀ (r2 : Int), ∀ (m2 : qm), P2 r2 m2 → q_in32 r2 → q_Ev yX12_dropsOf cX12_dropsOf 4 (some .int) 1 0 0 [(2, 188), (0, x)] (q_sh0, q_rb b, (q_up m2 188 16 0)) (qK (q_rb b) (P3 r2 m2)))
    (o3 : ((0 ≤ x ∧ x ≤ 5) ∧ (0 ≤ y ∧ y ≤ 5) ∧ x ≠ y) → ∀ (r2 : Int), ∀ (m2 : qm), P2 r2 m2 → q_in32 r2 → ∀ (r3 : Int), ∀ (m3 : qm), P3 r2 m2 r3 m3 → q_in32 r3 → (0 ≤ (m3 188 16) ∧ (m3 188 16) < 16))
    {P5 : Int → qm → Int → qm → Int → qm → Prop}
    (l4 : ((0 ≤ x ∧ x ≤ 5) ∧ (0 ≤ y ∧ y ≤ 5) ∧ x ≠ y) → ∀ (r2 : Int), ∀ (m2 : qm), P2 r2 m2 → q_in32 r2 → ∀ (r3 : Int), ∀ (m3 : qm), P3 r2 m2 r3 m3 → q_in32 r3 → q_Ev yX12_roomOf cX12_roomOf 4 (some .int) 1 0 0 [(2, 188), (0, y)] (q_sh0, q_rb b, (q_up (q_up m3 199 (m3 188 16) r3) 188 16 ((m3 188 16) + 1))) (qK (q_rb b) (P5 r2 m2 r3 m3)))
    (o5 : ((0 ≤ x ∧ x ≤ 5) ∧ (0 ≤ y ∧ y ≤ 5) ∧ x ≠ y) → ∀ (r2 : Int), ∀ (m2 : qm), P2 r2 m2 → q_in32 r2 → ∀ (r3 : Int), ∀ (m3 : qm), P3 r2 m2 r3 m3 → q_in32 r3 → ∀ (r5 : Int), ∀ (m5 : qm), P5 r2 m2 r3 m3 r5 m5 → q_in32 r5 → (0 ≤ (m5 188 16) ∧ (m5 188 16) < 16))
    {P7 : Int → qm → Int → qm → Int → qm → Int → qm → Prop}
    (l6 : ((0 ≤ x ∧ x ≤ 5) ∧ (0 ≤ y ∧ y ≤ 5) ∧ x ≠ y) → ∀ (r2 : Int), ∀ (m2 : qm), P2 r2 m2 → q_in32 r2 → ∀ (r3 : Int), ∀ (m3 : qm), P3 r2 m2 r3 m3 → q_in32 r3 → ∀ (r5 : Int), ∀ (m5 : qm), P5 r2 m2 r3 m3 r5 m5 → q_in32 r5 → q_Ev yX12_canPay cX12_canPay 4 (some .boolean) 2 0 0 [(2, 188), (0, x), (0, y)] (q_sh0, q_rb b, (q_up (q_up m5 199 (m5 188 16) r5) 188 16 ((m5 188 16) + 1))) (qK (q_rb b) (P7 r2 m2 r3 m3 r5 m5)))
    (l7 : ((0 ≤ x ∧ x ≤ 5) ∧ (0 ≤ y ∧ y ≤ 5) ∧ x ≠ y) → ∀ (r2 : Int), ∀ (m2 : qm), P2 r2 m2 → q_in32 r2 → ∀ (r3 : Int), ∀ (m3 : qm), P3 r2 m2 r3 m3 → q_in32 r3 → ∀ (r5 : Int), ∀ (m5 : qm), P5 r2 m2 r3 m3 r5 m5 → q_in32 r5 → ∀ (r7 : Int), ∀ (m7 : qm), P7 r2 m2 r3 m3 r5 m5 r7 m7 → q_in32 r7 → r7 = 0 → Q 0 m7)
    (l8 : ((0 ≤ x ∧ x ≤ 5) ∧ (0 ≤ y ∧ y ≤ 5) ∧ x ≠ y) → ∀ (r2 : Int), ∀ (m2 : qm), P2 r2 m2 → q_in32 r2 → ∀ (r3 : Int), ∀ (m3 : qm), P3 r2 m2 r3 m3 → q_in32 r3 → ∀ (r5 : Int), ∀ (m5 : qm), P5 r2 m2 r3 m3 r5 m5 → q_in32 r5 → ∀ (r7 : Int), ∀ (m7 : qm), P7 r2 m2 r3 m3 r5 m5 r7 m7 → q_in32 r7 → r7 ≠ 0 → Q 1 m7)
    (l9 : ¬ ((0 ≤ x ∧ x ≤ 5) ∧ (0 ≤ y ∧ y ≤ 5) ∧ x ≠ y) → Q (-1) (q_up mem 188 17 0)) :
    q_At yX12_pays cX12_pays 3 (some .int) 4 0 0 (qK (q_rb b) Q) 0 [(2, 188), (0, x), (0, y)] [] (q_sh0, q_rb b, mem) := by
  refine q_aload_n dX12_pays_0 rfl rfl ?_
  refine qx_iconst dX12_pays_1 rfl rfl ?_
  refine q_putI (ci := 12) (k := 17) (kI := 17) (ty := .int) dX12_pays_2 rfl (by decide) rfl tw1200 rfl rfl rfl (fun _ => ⟨rfl, rfl⟩) qs188 ?_
  refine q_iload_n dX12_pays_5 rfl rfl ?_
  refine q_iload_n dX12_pays_6 rfl rfl ?_
  refine qx_invS [(0, x), (0, y)] [(0, y), (0, x)] rfl qM_X12_areOwners dX12_pays_7 tw1549 rfl rfl rfl rfl (spX12_areOwners) (fun r1 m1 p1 q1 => ?_)
  obtain ⟨p1e, ⟨p1f, p1⟩ | ⟨p1f, p1⟩⟩ := p1
  · rw [p1e, p1f]
    refine qx_if_ne (tgt := 15) dX12_pays_10 (by decide) (fun _ => ?_) (fun z => absurd z (by decide))
    refine q_aload_n dX12_pays_15 rfl rfl ?_
    refine qx_invV (ci := 12) [] [(2, 188)] rfl qM_X12_begin_ dX12_pays_16 tw1559 rfl qs188 rfl rfl rfl rfl (l1 p1) (fun r2 m2 p2 q2 => ?_)
    refine q_aload_n dX12_pays_19 rfl rfl ?_
    refine qx_iconst dX12_pays_20 rfl rfl ?_
    refine q_putI (ci := 12) (k := 16) (kI := 16) (ty := .int) dX12_pays_21 rfl (by decide) rfl tw1199 rfl rfl rfl (fun _ => ⟨rfl, rfl⟩) qs188 ?_
    refine q_aload_n dX12_pays_24 rfl rfl ?_
    refine q_aload_n dX12_pays_25 rfl rfl ?_
    refine q_iload_n dX12_pays_26 rfl rfl ?_
    refine qx_invV (ci := 12) [(0, x)] [(0, x), (2, 188), (2, 188)] rfl qM_X12_dropsOf dX12_pays_27 tw1647 rfl qs188 rfl rfl rfl rfl (l2 p1 r2 m2 p2 q2) (fun r3 m3 p3 q3 => ?_)
    refine qx_invV (ci := 12) [(0, r3)] [(0, r3), (2, 188)] rfl qM_X12_tell dX12_pays_30 tw1509 rfl qs188 rfl rfl rfl rfl (spX12_tell (o3 p1 r2 m2 p2 q2 r3 m3 p3 q3)) (fun r4 m4 p4 q4 => ?_)
    obtain rfl := p4
    refine q_aload_n dX12_pays_33 rfl rfl ?_
    refine q_aload_n dX12_pays_34 rfl rfl ?_
    refine q_iload_n dX12_pays_35 rfl rfl ?_
    refine qx_invV (ci := 12) [(0, y)] [(0, y), (2, 188), (2, 188)] rfl qM_X12_roomOf dX12_pays_36 tw1651 rfl qs188 rfl rfl rfl rfl (l4 p1 r2 m2 p2 q2 r3 m3 p3 q3) (fun r5 m5 p5 q5 => ?_)
    refine qx_invV (ci := 12) [(0, r5)] [(0, r5), (2, 188)] rfl qM_X12_tell dX12_pays_39 tw1509 rfl qs188 rfl rfl rfl rfl (spX12_tell (o5 p1 r2 m2 p2 q2 r3 m3 p3 q3 r5 m5 p5 q5)) (fun r6 m6 p6 q6 => ?_)
    obtain rfl := p6
    refine q_aload_n dX12_pays_42 rfl rfl ?_
    refine q_iload_n dX12_pays_43 rfl rfl ?_
    refine q_iload_n dX12_pays_44 rfl rfl ?_
    refine qx_invV (ci := 12) [(0, x), (0, y)] [(0, y), (0, x), (2, 188)] rfl qM_X12_canPay dX12_pays_45 tw1655 rfl qs188 rfl rfl rfl rfl (l6 p1 r2 m2 p2 q2 r3 m3 p3 q3 r5 m5 p5 q5) (fun r7 m7 p7 q7 => ?_)
    refine qx_if_eq (tgt := 55) dX12_pays_48 (by decide) (fun c8 => ?_) (fun c8 => ?_)
    · skip
      refine qx_iconst dX12_pays_55 rfl rfl ?_
      exact q_iret dX12_pays_56 (qK_i (l7 p1 r2 m2 p2 q2 r3 m3 p3 q3 r5 m5 p5 q5 r7 m7 p7 q7 c8))
    · skip
      refine qx_iconst dX12_pays_51 rfl rfl ?_
      refine q_goto (tgt := 56) dX12_pays_52 (by decide) ?_
      exact q_iret dX12_pays_56 (qK_i (l8 p1 r2 m2 p2 q2 r3 m3 p3 q3 r5 m5 p5 q5 r7 m7 p7 q7 c8))
  · rw [p1e, p1f]
    refine qx_if_ne (tgt := 15) dX12_pays_10 (by decide) (fun z => absurd z (by decide)) (fun _ => ?_)
    refine qx_iconst dX12_pays_13 rfl rfl ?_
    exact q_iret dX12_pays_14 (qK_i (l9 p1))
theorem dX11_soonest_0 : decode cX11_soonest 0 = .ok (.iload_n 1, 1) := by decide +kernel
theorem dX11_soonest_1 : decode cX11_soonest 1 = .ok (.iload_n 2, 1) := by decide +kernel
theorem dX11_soonest_2 : decode cX11_soonest 2 = .ok (.invokestatic 276, 3) := by decide +kernel
theorem dX11_soonest_5 : decode cX11_soonest 5 = .ok (.ifCond .ne 5, 3) := by decide +kernel
theorem dX11_soonest_8 : decode cX11_soonest 8 = .ok (.iconst (-1), 1) := by decide +kernel
theorem dX11_soonest_9 : decode cX11_soonest 9 = .ok (.ireturn, 1) := by decide +kernel
theorem dX11_soonest_10 : decode cX11_soonest 10 = .ok (.aload_n 0, 1) := by decide +kernel
theorem dX11_soonest_11 : decode cX11_soonest 11 = .ok (.getfield 38, 3) := by decide +kernel
theorem dX11_soonest_14 : decode cX11_soonest 14 = .ok (.aload_n 0, 1) := by decide +kernel
theorem dX11_soonest_15 : decode cX11_soonest 15 = .ok (.getfield 19, 3) := by decide +kernel
theorem dX11_soonest_18 : decode cX11_soonest 18 = .ok (.invokevirtual 282, 3) := by decide +kernel
theorem dX11_soonest_21 : decode cX11_soonest 21 = .ok (.iconst 0, 1) := by decide +kernel
theorem dX11_soonest_22 : decode cX11_soonest 22 = .ok (.istore_n 3, 1) := by decide +kernel
theorem dX11_soonest_23 : decode cX11_soonest 23 = .ok (.iload_n 3, 1) := by decide +kernel
theorem dX11_soonest_24 : decode cX11_soonest 24 = .ok (.sipush 200, 3) := by decide +kernel
theorem dX11_soonest_27 : decode cX11_soonest 27 = .ok (.if_icmp .gt 34, 3) := by decide +kernel
theorem dX11_soonest_30 : decode cX11_soonest 30 = .ok (.aload_n 0, 1) := by decide +kernel
theorem dX11_soonest_31 : decode cX11_soonest 31 = .ok (.iload_n 1, 1) := by decide +kernel
theorem dX11_soonest_32 : decode cX11_soonest 32 = .ok (.iload_n 2, 1) := by decide +kernel
theorem dX11_soonest_33 : decode cX11_soonest 33 = .ok (.aload_n 0, 1) := by decide +kernel
theorem dX11_soonest_34 : decode cX11_soonest 34 = .ok (.getfield 38, 3) := by decide +kernel
theorem dX11_soonest_37 : decode cX11_soonest 37 = .ok (.getfield 299, 3) := by decide +kernel
theorem dX11_soonest_40 : decode cX11_soonest 40 = .ok (.invokevirtual 346, 3) := by decide +kernel
theorem dX11_soonest_43 : decode cX11_soonest 43 = .ok (.ifCond .eq 5, 3) := by decide +kernel
theorem dX11_soonest_46 : decode cX11_soonest 46 = .ok (.iload_n 3, 1) := by decide +kernel
theorem dX11_soonest_47 : decode cX11_soonest 47 = .ok (.ireturn, 1) := by decide +kernel
theorem dX11_soonest_48 : decode cX11_soonest 48 = .ok (.aload_n 0, 1) := by decide +kernel
theorem dX11_soonest_49 : decode cX11_soonest 49 = .ok (.getfield 38, 3) := by decide +kernel
theorem dX11_soonest_52 : decode cX11_soonest 52 = .ok (.invokevirtual 292, 3) := by decide +kernel
theorem dX11_soonest_55 : decode cX11_soonest 55 = .ok (.iinc 3 1, 3) := by decide +kernel
theorem dX11_soonest_58 : decode cX11_soonest 58 = .ok (.goto (-35), 3) := by decide +kernel
theorem dX11_soonest_61 : decode cX11_soonest 61 = .ok (.bipush (-2), 2) := by decide +kernel
theorem dX11_soonest_63 : decode cX11_soonest 63 = .ok (.ireturn, 1) := by decide +kernel
theorem bkX11_soonest_0 {b : Int} {mem : qm} {Q : Int → qm → Prop}
    {x y : Int}
    {P2 : Int → qm → Prop}
    (l1 : ((0 ≤ x ∧ x < 6) ∧ (0 ≤ y ∧ y < 6) ∧ x ≠ y) → q_Ev yX1_start cX1_start 2 none 2 0 0 [(2, 26), (2, 5)] (q_sh0, q_rb b, mem) (qK (q_rb b) (P2)))
    (l2 : ((0 ≤ x ∧ x < 6) ∧ (0 ≤ y ∧ y < 6) ∧ x ≠ y) → ∀ (r2 : Int), ∀ (m2 : qm), P2 r2 m2 → q_in32 r2 → q_At yX11_soonest cX11_soonest 4 (some .int) 3 0 0 (qK (q_rb b) Q) 23 [(2, 0), (0, x), (0, y), (0, 0)] [] (q_sh0, q_rb b, m2))
    (l3 : ¬ ((0 ≤ x ∧ x < 6) ∧ (0 ≤ y ∧ y < 6) ∧ x ≠ y) → Q (-1) mem) :
    q_At yX11_soonest cX11_soonest 4 (some .int) 3 0 0 (qK (q_rb b) Q) 0 [(2, 0), (0, x), (0, y), (4, 0)] [] (q_sh0, q_rb b, mem) := by
  refine q_iload_n dX11_soonest_0 rfl rfl ?_
  refine q_iload_n dX11_soonest_1 rfl rfl ?_
  refine qx_invS [(0, x), (0, y)] [(0, y), (0, x)] rfl qM_X11_areTwoOwners dX11_soonest_2 tw760 rfl rfl rfl rfl (spX11_areTwoOwners) (fun r1 m1 p1 q1 => ?_)
  obtain ⟨p1e, ⟨p1f, p1⟩ | ⟨p1f, p1⟩⟩ := p1
  · rw [p1e, p1f]
    refine qx_if_ne (tgt := 10) dX11_soonest_5 (by decide) (fun _ => ?_) (fun z => absurd z (by decide))
    refine q_aload_n dX11_soonest_10 rfl rfl ?_
    refine q_getR (ci := 11) (k := 4) dX11_soonest_11 rfl (by decide) rfl tw353 (by decide) qs0 qw0_4 (by decide) ?_
    refine q_aload_n dX11_soonest_14 rfl rfl ?_
    refine q_getR (ci := 11) (k := 1) dX11_soonest_15 rfl (by decide) rfl tw350 (by decide) qs0 qw0_1 (by decide) ?_
    refine qx_invV (ci := 1) [(2, 5)] [(2, 5), (2, 26)] rfl qM_X1_start dX11_soonest_18 tw767 rfl qs26 rfl rfl rfl rfl (l1 p1) (fun r2 m2 p2 q2 => ?_)
    refine qx_iconst dX11_soonest_21 rfl rfl ?_
    refine qx_istore_n (L' := [(2, 0), (0, x), (0, y), (0, 0)]) dX11_soonest_22 rfl rfl rfl rfl ?_
    exact l2 p1 r2 m2 p2 q2
  · rw [p1e, p1f]
    refine qx_if_ne (tgt := 10) dX11_soonest_5 (by decide) (fun z => absurd z (by decide)) (fun _ => ?_)
    refine qx_iconst dX11_soonest_8 rfl rfl ?_
    exact q_iret dX11_soonest_9 (qK_i (l3 p1))
theorem bkX11_soonest_23 {b : Int} {mem : qm} {Q : Int → qm → Prop}
    {x y v3 : Int}
    (l1 : 200 < v3 → Q (-2) mem)
    {P2 : Int → qm → Prop}
    (l2 : v3 ≤ 200 → q_Ev yX11_couldPay cX11_couldPay 5 (some .boolean) 2 0 0 [(2, 0), (0, x), (0, y), (2, 27)] (q_sh0, q_rb b, mem) (qK (q_rb b) (P2)))
    {P4 : Int → qm → Int → qm → Prop}
    (l3 : v3 ≤ 200 → ∀ (r2 : Int), ∀ (m2 : qm), P2 r2 m2 → q_in32 r2 → r2 = 0 → q_Ev yX1_strike cX1_strike 4 none 2 0 0 [(2, 26)] (q_sh0, q_rb b, m2) (qK (q_rb b) (P4 r2 m2)))
    (o4 : v3 ≤ 200 → ∀ (r2 : Int), ∀ (m2 : qm), P2 r2 m2 → q_in32 r2 → r2 = 0 → ∀ (r4 : Int), ∀ (m4 : qm), P4 r2 m2 r4 m4 → q_in32 r4 → q_in32 (v3 + 1))
    (l5 : v3 ≤ 200 → ∀ (r2 : Int), ∀ (m2 : qm), P2 r2 m2 → q_in32 r2 → r2 = 0 → ∀ (r4 : Int), ∀ (m4 : qm), P4 r2 m2 r4 m4 → q_in32 r4 → q_At yX11_soonest cX11_soonest 4 (some .int) 3 0 0 (qK (q_rb b) Q) 23 [(2, 0), (0, x), (0, y), (0, (v3 + 1))] [] (q_sh0, q_rb b, m4))
    (l6 : v3 ≤ 200 → ∀ (r2 : Int), ∀ (m2 : qm), P2 r2 m2 → q_in32 r2 → r2 ≠ 0 → Q v3 m2) :
    q_At yX11_soonest cX11_soonest 4 (some .int) 3 0 0 (qK (q_rb b) Q) 23 [(2, 0), (0, x), (0, y), (0, v3)] [] (q_sh0, q_rb b, mem) := by
  refine q_iload_n dX11_soonest_23 rfl rfl ?_
  refine qx_sipush dX11_soonest_24 rfl rfl ?_
  refine qx_icmp_gt (tgt := 61) dX11_soonest_27 (by decide) (fun c1 => ?_) (fun c1 => ?_)
  · skip
    refine qx_bipush dX11_soonest_61 rfl rfl ?_
    exact q_iret dX11_soonest_63 (qK_i (l1 c1))
  · skip
    refine q_aload_n dX11_soonest_30 rfl rfl ?_
    refine q_iload_n dX11_soonest_31 rfl rfl ?_
    refine q_iload_n dX11_soonest_32 rfl rfl ?_
    refine q_aload_n dX11_soonest_33 rfl rfl ?_
    refine q_getR (ci := 11) (k := 4) dX11_soonest_34 rfl (by decide) rfl tw353 (by decide) qs0 qw0_4 (by decide) ?_
    refine q_getR (ci := 1) (k := 1) dX11_soonest_37 rfl (by decide) rfl tw153 (by decide) qs26 qw26_1 (by decide) ?_
    refine qx_invV (ci := 11) [(0, x), (0, y), (2, 27)] [(2, 27), (0, y), (0, x), (2, 0)] rfl qM_X11_couldPay dX11_soonest_40 tw934 rfl qs0 rfl rfl rfl rfl (l2 c1) (fun r2 m2 p2 q2 => ?_)
    refine qx_if_eq (tgt := 48) dX11_soonest_43 (by decide) (fun c3 => ?_) (fun c3 => ?_)
    · skip
      refine q_aload_n dX11_soonest_48 rfl rfl ?_
      refine q_getR (ci := 11) (k := 4) dX11_soonest_49 rfl (by decide) rfl tw353 (by decide) qs0 qw0_4 (by decide) ?_
      refine qx_invV (ci := 1) [] [(2, 26)] rfl qM_X1_strike dX11_soonest_52 tw783 rfl qs26 rfl rfl rfl rfl (l3 c1 r2 m2 p2 q2 c3) (fun r4 m4 p4 q4 => ?_)
      refine qx_iinc (L' := [(2, 0), (0, x), (0, y), (0, (v3 + 1))]) dX11_soonest_55 rfl rfl rfl (o4 c1 r2 m2 p2 q2 c3 r4 m4 p4 q4) rfl ?_
      refine q_goto (tgt := 23) dX11_soonest_58 (by decide) ?_
      exact l5 c1 r2 m2 p2 q2 c3 r4 m4 p4 q4
    · skip
      refine q_iload_n dX11_soonest_46 rfl rfl ?_
      exact q_iret dX11_soonest_47 (qK_i (l6 c1 r2 m2 p2 q2 c3))
theorem dX12_soonest_0 : decode cX12_soonest 0 = .ok (.aload_n 0, 1) := by decide +kernel
theorem dX12_soonest_1 : decode cX12_soonest 1 = .ok (.iconst 0, 1) := by decide +kernel
theorem dX12_soonest_2 : decode cX12_soonest 2 = .ok (.putfield 128, 3) := by decide +kernel
theorem dX12_soonest_5 : decode cX12_soonest 5 = .ok (.iload_n 1, 1) := by decide +kernel
theorem dX12_soonest_6 : decode cX12_soonest 6 = .ok (.iload_n 2, 1) := by decide +kernel
theorem dX12_soonest_7 : decode cX12_soonest 7 = .ok (.invokestatic 303, 3) := by decide +kernel
theorem dX12_soonest_10 : decode cX12_soonest 10 = .ok (.ifCond .ne 5, 3) := by decide +kernel
theorem dX12_soonest_13 : decode cX12_soonest 13 = .ok (.iconst (-1), 1) := by decide +kernel
theorem dX12_soonest_14 : decode cX12_soonest 14 = .ok (.ireturn, 1) := by decide +kernel
theorem dX12_soonest_15 : decode cX12_soonest 15 = .ok (.aload_n 0, 1) := by decide +kernel
theorem dX12_soonest_16 : decode cX12_soonest 16 = .ok (.invokevirtual 312, 3) := by decide +kernel
theorem dX12_soonest_19 : decode cX12_soonest 19 = .ok (.iconst 0, 1) := by decide +kernel
theorem dX12_soonest_20 : decode cX12_soonest 20 = .ok (.istore_n 3, 1) := by decide +kernel
theorem dX12_soonest_21 : decode cX12_soonest 21 = .ok (.iload_n 3, 1) := by decide +kernel
theorem dX12_soonest_22 : decode cX12_soonest 22 = .ok (.sipush 200, 3) := by decide +kernel
theorem dX12_soonest_25 : decode cX12_soonest 25 = .ok (.if_icmp .gt 25, 3) := by decide +kernel
theorem dX12_soonest_28 : decode cX12_soonest 28 = .ok (.aload_n 0, 1) := by decide +kernel
theorem dX12_soonest_29 : decode cX12_soonest 29 = .ok (.iload_n 1, 1) := by decide +kernel
theorem dX12_soonest_30 : decode cX12_soonest 30 = .ok (.iload_n 2, 1) := by decide +kernel
theorem dX12_soonest_31 : decode cX12_soonest 31 = .ok (.invokevirtual 357, 3) := by decide +kernel
theorem dX12_soonest_34 : decode cX12_soonest 34 = .ok (.ifCond .eq 5, 3) := by decide +kernel
theorem dX12_soonest_37 : decode cX12_soonest 37 = .ok (.iload_n 3, 1) := by decide +kernel
theorem dX12_soonest_38 : decode cX12_soonest 38 = .ok (.ireturn, 1) := by decide +kernel
theorem dX12_soonest_39 : decode cX12_soonest 39 = .ok (.aload_n 0, 1) := by decide +kernel
theorem dX12_soonest_40 : decode cX12_soonest 40 = .ok (.invokevirtual 309, 3) := by decide +kernel
theorem dX12_soonest_43 : decode cX12_soonest 43 = .ok (.pop, 1) := by decide +kernel
theorem dX12_soonest_44 : decode cX12_soonest 44 = .ok (.iinc 3 1, 3) := by decide +kernel
theorem dX12_soonest_47 : decode cX12_soonest 47 = .ok (.goto (-26), 3) := by decide +kernel
theorem dX12_soonest_50 : decode cX12_soonest 50 = .ok (.bipush (-2), 2) := by decide +kernel
theorem dX12_soonest_52 : decode cX12_soonest 52 = .ok (.ireturn, 1) := by decide +kernel
theorem bkX12_soonest_0 {b : Int} {mem : qm} {Q : Int → qm → Prop}
    {x y : Int}
    {P2 : Int → qm → Prop}
    (l1 : ((0 ≤ x ∧ x ≤ 5) ∧ (0 ≤ y ∧ y ≤ 5) ∧ x ≠ y) → q_Ev yX12_begin_ cX12_begin_ 2 none 1 0 0 [(2, 188)] (q_sh0, q_rb b, (q_up mem 188 17 0)) (qK (q_rb b) (P2)))
    (l2 : ((0 ≤ x ∧ x ≤ 5) ∧ (0 ≤ y ∧ y ≤ 5) ∧ x ≠ y) → ∀ (r2 : Int), ∀ (m2 : qm), P2 r2 m2 → q_in32 r2 → q_At yX12_soonest cX12_soonest 4 (some .int) 4 0 0 (qK (q_rb b) Q) 21 [(2, 188), (0, x), (0, y), (0, 0)] [] (q_sh0, q_rb b, m2))
    (l3 : ¬ ((0 ≤ x ∧ x ≤ 5) ∧ (0 ≤ y ∧ y ≤ 5) ∧ x ≠ y) → Q (-1) (q_up mem 188 17 0)) :
    q_At yX12_soonest cX12_soonest 4 (some .int) 4 0 0 (qK (q_rb b) Q) 0 [(2, 188), (0, x), (0, y), (4, 0)] [] (q_sh0, q_rb b, mem) := by
  refine q_aload_n dX12_soonest_0 rfl rfl ?_
  refine qx_iconst dX12_soonest_1 rfl rfl ?_
  refine q_putI (ci := 12) (k := 17) (kI := 17) (ty := .int) dX12_soonest_2 rfl (by decide) rfl tw1200 rfl rfl rfl (fun _ => ⟨rfl, rfl⟩) qs188 ?_
  refine q_iload_n dX12_soonest_5 rfl rfl ?_
  refine q_iload_n dX12_soonest_6 rfl rfl ?_
  refine qx_invS [(0, x), (0, y)] [(0, y), (0, x)] rfl qM_X12_areOwners dX12_soonest_7 tw1549 rfl rfl rfl rfl (spX12_areOwners) (fun r1 m1 p1 q1 => ?_)
  obtain ⟨p1e, ⟨p1f, p1⟩ | ⟨p1f, p1⟩⟩ := p1
  · rw [p1e, p1f]
    refine qx_if_ne (tgt := 15) dX12_soonest_10 (by decide) (fun _ => ?_) (fun z => absurd z (by decide))
    refine q_aload_n dX12_soonest_15 rfl rfl ?_
    refine qx_invV (ci := 12) [] [(2, 188)] rfl qM_X12_begin_ dX12_soonest_16 tw1559 rfl qs188 rfl rfl rfl rfl (l1 p1) (fun r2 m2 p2 q2 => ?_)
    refine qx_iconst dX12_soonest_19 rfl rfl ?_
    refine qx_istore_n (L' := [(2, 188), (0, x), (0, y), (0, 0)]) dX12_soonest_20 rfl rfl rfl rfl ?_
    exact l2 p1 r2 m2 p2 q2
  · rw [p1e, p1f]
    refine qx_if_ne (tgt := 15) dX12_soonest_10 (by decide) (fun z => absurd z (by decide)) (fun _ => ?_)
    refine qx_iconst dX12_soonest_13 rfl rfl ?_
    exact q_iret dX12_soonest_14 (qK_i (l3 p1))
theorem bkX12_soonest_21 {b : Int} {mem : qm} {Q : Int → qm → Prop}
    {x y v3 : Int}
    (l1 : 200 < v3 → Q (-2) mem)
    {P2 : Int → qm → Prop}
    (l2 : v3 ≤ 200 → q_Ev yX12_canPay cX12_canPay 4 (some .boolean) 2 0 0 [(2, 188), (0, x), (0, y)] (q_sh0, q_rb b, mem) (qK (q_rb b) (P2)))
    {P4 : Int → qm → Int → qm → Prop}
    (l3 : v3 ≤ 200 → ∀ (r2 : Int), ∀ (m2 : qm), P2 r2 m2 → q_in32 r2 → r2 = 0 → q_Ev yX12_goOn cX12_goOn 5 (some .int) 1 0 0 [(2, 188)] (q_sh0, q_rb b, m2) (qK (q_rb b) (P4 r2 m2)))
    (o4 : v3 ≤ 200 → ∀ (r2 : Int), ∀ (m2 : qm), P2 r2 m2 → q_in32 r2 → r2 = 0 → ∀ (r4 : Int), ∀ (m4 : qm), P4 r2 m2 r4 m4 → q_in32 r4 → q_in32 (v3 + 1))
    (l5 : v3 ≤ 200 → ∀ (r2 : Int), ∀ (m2 : qm), P2 r2 m2 → q_in32 r2 → r2 = 0 → ∀ (r4 : Int), ∀ (m4 : qm), P4 r2 m2 r4 m4 → q_in32 r4 → q_At yX12_soonest cX12_soonest 4 (some .int) 4 0 0 (qK (q_rb b) Q) 21 [(2, 188), (0, x), (0, y), (0, (v3 + 1))] [] (q_sh0, q_rb b, m4))
    (l6 : v3 ≤ 200 → ∀ (r2 : Int), ∀ (m2 : qm), P2 r2 m2 → q_in32 r2 → r2 ≠ 0 → Q v3 m2) :
    q_At yX12_soonest cX12_soonest 4 (some .int) 4 0 0 (qK (q_rb b) Q) 21 [(2, 188), (0, x), (0, y), (0, v3)] [] (q_sh0, q_rb b, mem) := by
  refine q_iload_n dX12_soonest_21 rfl rfl ?_
  refine qx_sipush dX12_soonest_22 rfl rfl ?_
  refine qx_icmp_gt (tgt := 50) dX12_soonest_25 (by decide) (fun c1 => ?_) (fun c1 => ?_)
  · skip
    refine qx_bipush dX12_soonest_50 rfl rfl ?_
    exact q_iret dX12_soonest_52 (qK_i (l1 c1))
  · skip
    refine q_aload_n dX12_soonest_28 rfl rfl ?_
    refine q_iload_n dX12_soonest_29 rfl rfl ?_
    refine q_iload_n dX12_soonest_30 rfl rfl ?_
    refine qx_invV (ci := 12) [(0, x), (0, y)] [(0, y), (0, x), (2, 188)] rfl qM_X12_canPay dX12_soonest_31 tw1655 rfl qs188 rfl rfl rfl rfl (l2 c1) (fun r2 m2 p2 q2 => ?_)
    refine qx_if_eq (tgt := 39) dX12_soonest_34 (by decide) (fun c3 => ?_) (fun c3 => ?_)
    · skip
      refine q_aload_n dX12_soonest_39 rfl rfl ?_
      refine qx_invV (ci := 12) [] [(2, 188)] rfl qM_X12_goOn dX12_soonest_40 tw1567 rfl qs188 rfl rfl rfl rfl (l3 c1 r2 m2 p2 q2 c3) (fun r4 m4 p4 q4 => ?_)
      refine q_pop dX12_soonest_43 (fun h => by cases h) ?_
      refine qx_iinc (L' := [(2, 188), (0, x), (0, y), (0, (v3 + 1))]) dX12_soonest_44 rfl rfl rfl (o4 c1 r2 m2 p2 q2 c3 r4 m4 p4 q4) rfl ?_
      refine q_goto (tgt := 21) dX12_soonest_47 (by decide) ?_
      exact l5 c1 r2 m2 p2 q2 c3 r4 m4 p4 q4
    · skip
      refine q_iload_n dX12_soonest_37 rfl rfl ?_
      exact q_iret dX12_soonest_38 (qK_i (l6 c1 r2 m2 p2 q2 c3))
theorem dX11_latest_0 : decode cX11_latest 0 = .ok (.iload_n 1, 1) := by decide +kernel
theorem dX11_latest_1 : decode cX11_latest 1 = .ok (.iload_n 2, 1) := by decide +kernel
theorem dX11_latest_2 : decode cX11_latest 2 = .ok (.invokestatic 276, 3) := by decide +kernel
theorem dX11_latest_5 : decode cX11_latest 5 = .ok (.ifCond .ne 5, 3) := by decide +kernel
theorem dX11_latest_8 : decode cX11_latest 8 = .ok (.iconst (-1), 1) := by decide +kernel
theorem dX11_latest_9 : decode cX11_latest 9 = .ok (.ireturn, 1) := by decide +kernel
theorem dX11_latest_10 : decode cX11_latest 10 = .ok (.bipush (-2), 2) := by decide +kernel
theorem dX11_latest_12 : decode cX11_latest 12 = .ok (.istore_n 3, 1) := by decide +kernel
theorem dX11_latest_13 : decode cX11_latest 13 = .ok (.aload_n 0, 1) := by decide +kernel
theorem dX11_latest_14 : decode cX11_latest 14 = .ok (.getfield 38, 3) := by decide +kernel
theorem dX11_latest_17 : decode cX11_latest 17 = .ok (.aload_n 0, 1) := by decide +kernel
theorem dX11_latest_18 : decode cX11_latest 18 = .ok (.getfield 19, 3) := by decide +kernel
theorem dX11_latest_21 : decode cX11_latest 21 = .ok (.invokevirtual 282, 3) := by decide +kernel
theorem dX11_latest_24 : decode cX11_latest 24 = .ok (.iconst 0, 1) := by decide +kernel
theorem dX11_latest_25 : decode cX11_latest 25 = .ok (.istore 4, 2) := by decide +kernel
theorem dX11_latest_27 : decode cX11_latest 27 = .ok (.iload 4, 2) := by decide +kernel
theorem dX11_latest_29 : decode cX11_latest 29 = .ok (.sipush 200, 3) := by decide +kernel
theorem dX11_latest_32 : decode cX11_latest 32 = .ok (.if_icmp .gt 35, 3) := by decide +kernel
theorem dX11_latest_35 : decode cX11_latest 35 = .ok (.aload_n 0, 1) := by decide +kernel
theorem dX11_latest_36 : decode cX11_latest 36 = .ok (.iload_n 1, 1) := by decide +kernel
theorem dX11_latest_37 : decode cX11_latest 37 = .ok (.iload_n 2, 1) := by decide +kernel
theorem dX11_latest_38 : decode cX11_latest 38 = .ok (.aload_n 0, 1) := by decide +kernel
theorem dX11_latest_39 : decode cX11_latest 39 = .ok (.getfield 38, 3) := by decide +kernel
theorem dX11_latest_42 : decode cX11_latest 42 = .ok (.getfield 299, 3) := by decide +kernel
theorem dX11_latest_45 : decode cX11_latest 45 = .ok (.invokevirtual 346, 3) := by decide +kernel
theorem dX11_latest_48 : decode cX11_latest 48 = .ok (.ifCond .eq 6, 3) := by decide +kernel
theorem dX11_latest_51 : decode cX11_latest 51 = .ok (.iload 4, 2) := by decide +kernel
theorem dX11_latest_53 : decode cX11_latest 53 = .ok (.istore_n 3, 1) := by decide +kernel
theorem dX11_latest_54 : decode cX11_latest 54 = .ok (.aload_n 0, 1) := by decide +kernel
theorem dX11_latest_55 : decode cX11_latest 55 = .ok (.getfield 38, 3) := by decide +kernel
theorem dX11_latest_58 : decode cX11_latest 58 = .ok (.invokevirtual 292, 3) := by decide +kernel
theorem dX11_latest_61 : decode cX11_latest 61 = .ok (.iinc 4 1, 3) := by decide +kernel
theorem dX11_latest_64 : decode cX11_latest 64 = .ok (.goto (-37), 3) := by decide +kernel
theorem dX11_latest_67 : decode cX11_latest 67 = .ok (.iload_n 3, 1) := by decide +kernel
theorem dX11_latest_68 : decode cX11_latest 68 = .ok (.ireturn, 1) := by decide +kernel
theorem bkX11_latest_0 {b : Int} {mem : qm} {Q : Int → qm → Prop}
    {x y : Int}
    {P2 : Int → qm → Prop}
    (l1 : ((0 ≤ x ∧ x < 6) ∧ (0 ≤ y ∧ y < 6) ∧ x ≠ y) → q_Ev yX1_start cX1_start 2 none 2 0 0 [(2, 26), (2, 5)] (q_sh0, q_rb b, mem) (qK (q_rb b) (P2)))
    (l2 : ((0 ≤ x ∧ x < 6) ∧ (0 ≤ y ∧ y < 6) ∧ x ≠ y) → ∀ (r2 : Int), ∀ (m2 : qm), P2 r2 m2 → q_in32 r2 → q_At yX11_latest cX11_latest 5 (some .int) 3 0 0 (qK (q_rb b) Q) 27 [(2, 0), (0, x), (0, y), (0, (-2)), (0, 0)] [] (q_sh0, q_rb b, m2))
    (l3 : ¬ ((0 ≤ x ∧ x < 6) ∧ (0 ≤ y ∧ y < 6) ∧ x ≠ y) → Q (-1) mem) :
    q_At yX11_latest cX11_latest 5 (some .int) 3 0 0 (qK (q_rb b) Q) 0 [(2, 0), (0, x), (0, y), (4, 0), (4, 0)] [] (q_sh0, q_rb b, mem) := by
  refine q_iload_n dX11_latest_0 rfl rfl ?_
  refine q_iload_n dX11_latest_1 rfl rfl ?_
  refine qx_invS [(0, x), (0, y)] [(0, y), (0, x)] rfl qM_X11_areTwoOwners dX11_latest_2 tw760 rfl rfl rfl rfl (spX11_areTwoOwners) (fun r1 m1 p1 q1 => ?_)
  obtain ⟨p1e, ⟨p1f, p1⟩ | ⟨p1f, p1⟩⟩ := p1
  · rw [p1e, p1f]
    refine qx_if_ne (tgt := 10) dX11_latest_5 (by decide) (fun _ => ?_) (fun z => absurd z (by decide))
    refine qx_bipush dX11_latest_10 rfl rfl ?_
    refine qx_istore_n (L' := [(2, 0), (0, x), (0, y), (0, (-2)), (4, 0)]) dX11_latest_12 rfl rfl rfl rfl ?_
    refine q_aload_n dX11_latest_13 rfl rfl ?_
    refine q_getR (ci := 11) (k := 4) dX11_latest_14 rfl (by decide) rfl tw353 (by decide) qs0 qw0_4 (by decide) ?_
    refine q_aload_n dX11_latest_17 rfl rfl ?_
    refine q_getR (ci := 11) (k := 1) dX11_latest_18 rfl (by decide) rfl tw350 (by decide) qs0 qw0_1 (by decide) ?_
    refine qx_invV (ci := 1) [(2, 5)] [(2, 5), (2, 26)] rfl qM_X1_start dX11_latest_21 tw767 rfl qs26 rfl rfl rfl rfl (l1 p1) (fun r2 m2 p2 q2 => ?_)
    refine qx_iconst dX11_latest_24 rfl rfl ?_
    refine qx_istore (L' := [(2, 0), (0, x), (0, y), (0, (-2)), (0, 0)]) dX11_latest_25 rfl rfl rfl ?_
    exact l2 p1 r2 m2 p2 q2
  · rw [p1e, p1f]
    refine qx_if_ne (tgt := 10) dX11_latest_5 (by decide) (fun z => absurd z (by decide)) (fun _ => ?_)
    refine qx_iconst dX11_latest_8 rfl rfl ?_
    exact q_iret dX11_latest_9 (qK_i (l3 p1))
theorem bkX11_latest_27 {b : Int} {mem : qm} {Q : Int → qm → Prop}
    {x y v3 v4 : Int}
    (l1 : 200 < v4 → Q v3 mem)
    {P2 : Int → qm → Prop}
    (l2 : v4 ≤ 200 → q_Ev yX11_couldPay cX11_couldPay 5 (some .boolean) 2 0 0 [(2, 0), (0, x), (0, y), (2, 27)] (q_sh0, q_rb b, mem) (qK (q_rb b) (P2)))
    {P4 : Int → qm → Int → qm → Prop}
    (l3 : v4 ≤ 200 → ∀ (r2 : Int), ∀ (m2 : qm), P2 r2 m2 → q_in32 r2 → r2 = 0 → q_Ev yX1_strike cX1_strike 4 none 2 0 0 [(2, 26)] (q_sh0, q_rb b, m2) (qK (q_rb b) (P4 r2 m2)))
    (o4 : v4 ≤ 200 → ∀ (r2 : Int), ∀ (m2 : qm), P2 r2 m2 → q_in32 r2 → r2 = 0 → ∀ (r4 : Int), ∀ (m4 : qm), P4 r2 m2 r4 m4 → q_in32 r4 → q_in32 (v4 + 1))
    (l5 : v4 ≤ 200 → ∀ (r2 : Int), ∀ (m2 : qm), P2 r2 m2 → q_in32 r2 → r2 = 0 → ∀ (r4 : Int), ∀ (m4 : qm), P4 r2 m2 r4 m4 → q_in32 r4 → q_At yX11_latest cX11_latest 5 (some .int) 3 0 0 (qK (q_rb b) Q) 27 [(2, 0), (0, x), (0, y), (0, v3), (0, (v4 + 1))] [] (q_sh0, q_rb b, m4))
    {P5 : Int → qm → Int → qm → Prop}
    (l6 : v4 ≤ 200 → ∀ (r2 : Int), ∀ (m2 : qm), P2 r2 m2 → q_in32 r2 → r2 ≠ 0 → q_Ev yX1_strike cX1_strike 4 none 2 0 0 [(2, 26)] (q_sh0, q_rb b, m2) (qK (q_rb b) (P5 r2 m2)))
    (o7 : v4 ≤ 200 → ∀ (r2 : Int), ∀ (m2 : qm), P2 r2 m2 → q_in32 r2 → r2 ≠ 0 → ∀ (r5 : Int), ∀ (m5 : qm), P5 r2 m2 r5 m5 → q_in32 r5 → q_in32 (v4 + 1))
    (l8 : v4 ≤ 200 → ∀ (r2 : Int), ∀ (m2 : qm), P2 r2 m2 → q_in32 r2 → r2 ≠ 0 → ∀ (r5 : Int), ∀ (m5 : qm), P5 r2 m2 r5 m5 → q_in32 r5 → q_At yX11_latest cX11_latest 5 (some .int) 3 0 0 (qK (q_rb b) Q) 27 [(2, 0), (0, x), (0, y), (0, v4), (0, (v4 + 1))] [] (q_sh0, q_rb b, m5)) :
    q_At yX11_latest cX11_latest 5 (some .int) 3 0 0 (qK (q_rb b) Q) 27 [(2, 0), (0, x), (0, y), (0, v3), (0, v4)] [] (q_sh0, q_rb b, mem) := by
  refine q_iload dX11_latest_27 rfl ?_
  refine qx_sipush dX11_latest_29 rfl rfl ?_
  refine qx_icmp_gt (tgt := 67) dX11_latest_32 (by decide) (fun c1 => ?_) (fun c1 => ?_)
  · skip
    refine q_iload_n dX11_latest_67 rfl rfl ?_
    exact q_iret dX11_latest_68 (qK_i (l1 c1))
  · skip
    refine q_aload_n dX11_latest_35 rfl rfl ?_
    refine q_iload_n dX11_latest_36 rfl rfl ?_
    refine q_iload_n dX11_latest_37 rfl rfl ?_
    refine q_aload_n dX11_latest_38 rfl rfl ?_
    refine q_getR (ci := 11) (k := 4) dX11_latest_39 rfl (by decide) rfl tw353 (by decide) qs0 qw0_4 (by decide) ?_
    refine q_getR (ci := 1) (k := 1) dX11_latest_42 rfl (by decide) rfl tw153 (by decide) qs26 qw26_1 (by decide) ?_
    refine qx_invV (ci := 11) [(0, x), (0, y), (2, 27)] [(2, 27), (0, y), (0, x), (2, 0)] rfl qM_X11_couldPay dX11_latest_45 tw934 rfl qs0 rfl rfl rfl rfl (l2 c1) (fun r2 m2 p2 q2 => ?_)
    refine qx_if_eq (tgt := 54) dX11_latest_48 (by decide) (fun c3 => ?_) (fun c3 => ?_)
    · skip
      refine q_aload_n dX11_latest_54 rfl rfl ?_
      refine q_getR (ci := 11) (k := 4) dX11_latest_55 rfl (by decide) rfl tw353 (by decide) qs0 qw0_4 (by decide) ?_
      refine qx_invV (ci := 1) [] [(2, 26)] rfl qM_X1_strike dX11_latest_58 tw783 rfl qs26 rfl rfl rfl rfl (l3 c1 r2 m2 p2 q2 c3) (fun r4 m4 p4 q4 => ?_)
      refine qx_iinc (L' := [(2, 0), (0, x), (0, y), (0, v3), (0, (v4 + 1))]) dX11_latest_61 rfl rfl rfl (o4 c1 r2 m2 p2 q2 c3 r4 m4 p4 q4) rfl ?_
      refine q_goto (tgt := 27) dX11_latest_64 (by decide) ?_
      exact l5 c1 r2 m2 p2 q2 c3 r4 m4 p4 q4
    · skip
      refine q_iload dX11_latest_51 rfl ?_
      refine qx_istore_n (L' := [(2, 0), (0, x), (0, y), (0, v4), (0, v4)]) dX11_latest_53 rfl rfl rfl rfl ?_
      refine q_aload_n dX11_latest_54 rfl rfl ?_
      refine q_getR (ci := 11) (k := 4) dX11_latest_55 rfl (by decide) rfl tw353 (by decide) qs0 qw0_4 (by decide) ?_
      refine qx_invV (ci := 1) [] [(2, 26)] rfl qM_X1_strike dX11_latest_58 tw783 rfl qs26 rfl rfl rfl rfl (l6 c1 r2 m2 p2 q2 c3) (fun r5 m5 p5 q5 => ?_)
      refine qx_iinc (L' := [(2, 0), (0, x), (0, y), (0, v4), (0, (v4 + 1))]) dX11_latest_61 rfl rfl rfl (o7 c1 r2 m2 p2 q2 c3 r5 m5 p5 q5) rfl ?_
      refine q_goto (tgt := 27) dX11_latest_64 (by decide) ?_
      exact l8 c1 r2 m2 p2 q2 c3 r5 m5 p5 q5
theorem dX12_latest_0 : decode cX12_latest 0 = .ok (.aload_n 0, 1) := by decide +kernel
theorem dX12_latest_1 : decode cX12_latest 1 = .ok (.iconst 0, 1) := by decide +kernel
theorem dX12_latest_2 : decode cX12_latest 2 = .ok (.putfield 128, 3) := by decide +kernel
theorem dX12_latest_5 : decode cX12_latest 5 = .ok (.iload_n 1, 1) := by decide +kernel
theorem dX12_latest_6 : decode cX12_latest 6 = .ok (.iload_n 2, 1) := by decide +kernel
theorem dX12_latest_7 : decode cX12_latest 7 = .ok (.invokestatic 303, 3) := by decide +kernel
theorem dX12_latest_10 : decode cX12_latest 10 = .ok (.ifCond .ne 5, 3) := by decide +kernel
theorem dX12_latest_13 : decode cX12_latest 13 = .ok (.iconst (-1), 1) := by decide +kernel
theorem dX12_latest_14 : decode cX12_latest 14 = .ok (.ireturn, 1) := by decide +kernel
theorem dX12_latest_15 : decode cX12_latest 15 = .ok (.aload_n 0, 1) := by decide +kernel
theorem dX12_latest_16 : decode cX12_latest 16 = .ok (.invokevirtual 312, 3) := by decide +kernel
theorem dX12_latest_19 : decode cX12_latest 19 = .ok (.bipush (-2), 2) := by decide +kernel
theorem dX12_latest_21 : decode cX12_latest 21 = .ok (.istore_n 3, 1) := by decide +kernel
theorem dX12_latest_22 : decode cX12_latest 22 = .ok (.iconst 0, 1) := by decide +kernel
theorem dX12_latest_23 : decode cX12_latest 23 = .ok (.istore 4, 2) := by decide +kernel
theorem dX12_latest_25 : decode cX12_latest 25 = .ok (.iload 4, 2) := by decide +kernel
theorem dX12_latest_27 : decode cX12_latest 27 = .ok (.sipush 200, 3) := by decide +kernel
theorem dX12_latest_30 : decode cX12_latest 30 = .ok (.if_icmp .gt 30, 3) := by decide +kernel
theorem dX12_latest_33 : decode cX12_latest 33 = .ok (.aload_n 0, 1) := by decide +kernel
theorem dX12_latest_34 : decode cX12_latest 34 = .ok (.iload_n 1, 1) := by decide +kernel
theorem dX12_latest_35 : decode cX12_latest 35 = .ok (.iload_n 2, 1) := by decide +kernel
theorem dX12_latest_36 : decode cX12_latest 36 = .ok (.invokevirtual 357, 3) := by decide +kernel
theorem dX12_latest_39 : decode cX12_latest 39 = .ok (.ifCond .eq 8, 3) := by decide +kernel
theorem dX12_latest_42 : decode cX12_latest 42 = .ok (.iload 4, 2) := by decide +kernel
theorem dX12_latest_44 : decode cX12_latest 44 = .ok (.goto 4, 3) := by decide +kernel
theorem dX12_latest_47 : decode cX12_latest 47 = .ok (.iload_n 3, 1) := by decide +kernel
theorem dX12_latest_48 : decode cX12_latest 48 = .ok (.istore_n 3, 1) := by decide +kernel
theorem dX12_latest_49 : decode cX12_latest 49 = .ok (.aload_n 0, 1) := by decide +kernel
theorem dX12_latest_50 : decode cX12_latest 50 = .ok (.invokevirtual 309, 3) := by decide +kernel
theorem dX12_latest_53 : decode cX12_latest 53 = .ok (.pop, 1) := by decide +kernel
theorem dX12_latest_54 : decode cX12_latest 54 = .ok (.iinc 4 1, 3) := by decide +kernel
theorem dX12_latest_57 : decode cX12_latest 57 = .ok (.goto (-32), 3) := by decide +kernel
theorem dX12_latest_60 : decode cX12_latest 60 = .ok (.iload_n 3, 1) := by decide +kernel
theorem dX12_latest_61 : decode cX12_latest 61 = .ok (.ireturn, 1) := by decide +kernel
theorem bkX12_latest_0 {b : Int} {mem : qm} {Q : Int → qm → Prop}
    {x y : Int}
    {P2 : Int → qm → Prop}
    (l1 : ((0 ≤ x ∧ x ≤ 5) ∧ (0 ≤ y ∧ y ≤ 5) ∧ x ≠ y) → q_Ev yX12_begin_ cX12_begin_ 2 none 1 0 0 [(2, 188)] (q_sh0, q_rb b, (q_up mem 188 17 0)) (qK (q_rb b) (P2)))
    (l2 : ((0 ≤ x ∧ x ≤ 5) ∧ (0 ≤ y ∧ y ≤ 5) ∧ x ≠ y) → ∀ (r2 : Int), ∀ (m2 : qm), P2 r2 m2 → q_in32 r2 → q_At yX12_latest cX12_latest 5 (some .int) 4 0 0 (qK (q_rb b) Q) 25 [(2, 188), (0, x), (0, y), (0, (-2)), (0, 0)] [] (q_sh0, q_rb b, m2))
    (l3 : ¬ ((0 ≤ x ∧ x ≤ 5) ∧ (0 ≤ y ∧ y ≤ 5) ∧ x ≠ y) → Q (-1) (q_up mem 188 17 0)) :
    q_At yX12_latest cX12_latest 5 (some .int) 4 0 0 (qK (q_rb b) Q) 0 [(2, 188), (0, x), (0, y), (4, 0), (4, 0)] [] (q_sh0, q_rb b, mem) := by
  refine q_aload_n dX12_latest_0 rfl rfl ?_
  refine qx_iconst dX12_latest_1 rfl rfl ?_
  refine q_putI (ci := 12) (k := 17) (kI := 17) (ty := .int) dX12_latest_2 rfl (by decide) rfl tw1200 rfl rfl rfl (fun _ => ⟨rfl, rfl⟩) qs188 ?_
  refine q_iload_n dX12_latest_5 rfl rfl ?_
  refine q_iload_n dX12_latest_6 rfl rfl ?_
  refine qx_invS [(0, x), (0, y)] [(0, y), (0, x)] rfl qM_X12_areOwners dX12_latest_7 tw1549 rfl rfl rfl rfl (spX12_areOwners) (fun r1 m1 p1 q1 => ?_)
  obtain ⟨p1e, ⟨p1f, p1⟩ | ⟨p1f, p1⟩⟩ := p1
  · rw [p1e, p1f]
    refine qx_if_ne (tgt := 15) dX12_latest_10 (by decide) (fun _ => ?_) (fun z => absurd z (by decide))
    refine q_aload_n dX12_latest_15 rfl rfl ?_
    refine qx_invV (ci := 12) [] [(2, 188)] rfl qM_X12_begin_ dX12_latest_16 tw1559 rfl qs188 rfl rfl rfl rfl (l1 p1) (fun r2 m2 p2 q2 => ?_)
    refine qx_bipush dX12_latest_19 rfl rfl ?_
    refine qx_istore_n (L' := [(2, 188), (0, x), (0, y), (0, (-2)), (4, 0)]) dX12_latest_21 rfl rfl rfl rfl ?_
    refine qx_iconst dX12_latest_22 rfl rfl ?_
    refine qx_istore (L' := [(2, 188), (0, x), (0, y), (0, (-2)), (0, 0)]) dX12_latest_23 rfl rfl rfl ?_
    exact l2 p1 r2 m2 p2 q2
  · rw [p1e, p1f]
    refine qx_if_ne (tgt := 15) dX12_latest_10 (by decide) (fun z => absurd z (by decide)) (fun _ => ?_)
    refine qx_iconst dX12_latest_13 rfl rfl ?_
    exact q_iret dX12_latest_14 (qK_i (l3 p1))
theorem bkX12_latest_25 {b : Int} {mem : qm} {Q : Int → qm → Prop}
    {x y v3 v4 : Int}
    (l1 : 200 < v4 → Q v3 mem)
    {P2 : Int → qm → Prop}
    (l2 : v4 ≤ 200 → q_Ev yX12_canPay cX12_canPay 4 (some .boolean) 2 0 0 [(2, 188), (0, x), (0, y)] (q_sh0, q_rb b, mem) (qK (q_rb b) (P2)))
    {P4 : Int → qm → Int → qm → Prop}
    (l3 : v4 ≤ 200 → ∀ (r2 : Int), ∀ (m2 : qm), P2 r2 m2 → q_in32 r2 → r2 = 0 → q_Ev yX12_goOn cX12_goOn 5 (some .int) 1 0 0 [(2, 188)] (q_sh0, q_rb b, m2) (qK (q_rb b) (P4 r2 m2)))
    (o4 : v4 ≤ 200 → ∀ (r2 : Int), ∀ (m2 : qm), P2 r2 m2 → q_in32 r2 → r2 = 0 → ∀ (r4 : Int), ∀ (m4 : qm), P4 r2 m2 r4 m4 → q_in32 r4 → q_in32 (v4 + 1))
    (l5 : v4 ≤ 200 → ∀ (r2 : Int), ∀ (m2 : qm), P2 r2 m2 → q_in32 r2 → r2 = 0 → ∀ (r4 : Int), ∀ (m4 : qm), P4 r2 m2 r4 m4 → q_in32 r4 → q_At yX12_latest cX12_latest 5 (some .int) 4 0 0 (qK (q_rb b) Q) 25 [(2, 188), (0, x), (0, y), (0, v3), (0, (v4 + 1))] [] (q_sh0, q_rb b, m4))
    {P5 : Int → qm → Int → qm → Prop}
    (l6 : v4 ≤ 200 → ∀ (r2 : Int), ∀ (m2 : qm), P2 r2 m2 → q_in32 r2 → r2 ≠ 0 → q_Ev yX12_goOn cX12_goOn 5 (some .int) 1 0 0 [(2, 188)] (q_sh0, q_rb b, m2) (qK (q_rb b) (P5 r2 m2)))
    (o7 : v4 ≤ 200 → ∀ (r2 : Int), ∀ (m2 : qm), P2 r2 m2 → q_in32 r2 → r2 ≠ 0 → ∀ (r5 : Int), ∀ (m5 : qm), P5 r2 m2 r5 m5 → q_in32 r5 → q_in32 (v4 + 1))
    (l8 : v4 ≤ 200 → ∀ (r2 : Int), ∀ (m2 : qm), P2 r2 m2 → q_in32 r2 → r2 ≠ 0 → ∀ (r5 : Int), ∀ (m5 : qm), P5 r2 m2 r5 m5 → q_in32 r5 → q_At yX12_latest cX12_latest 5 (some .int) 4 0 0 (qK (q_rb b) Q) 25 [(2, 188), (0, x), (0, y), (0, v4), (0, (v4 + 1))] [] (q_sh0, q_rb b, m5)) :
    q_At yX12_latest cX12_latest 5 (some .int) 4 0 0 (qK (q_rb b) Q) 25 [(2, 188), (0, x), (0, y), (0, v3), (0, v4)] [] (q_sh0, q_rb b, mem) := by
  refine q_iload dX12_latest_25 rfl ?_
  refine qx_sipush dX12_latest_27 rfl rfl ?_
  refine qx_icmp_gt (tgt := 60) dX12_latest_30 (by decide) (fun c1 => ?_) (fun c1 => ?_)
  · skip
    refine q_iload_n dX12_latest_60 rfl rfl ?_
    exact q_iret dX12_latest_61 (qK_i (l1 c1))
  · skip
    refine q_aload_n dX12_latest_33 rfl rfl ?_
    refine q_iload_n dX12_latest_34 rfl rfl ?_
    refine q_iload_n dX12_latest_35 rfl rfl ?_
    refine qx_invV (ci := 12) [(0, x), (0, y)] [(0, y), (0, x), (2, 188)] rfl qM_X12_canPay dX12_latest_36 tw1655 rfl qs188 rfl rfl rfl rfl (l2 c1) (fun r2 m2 p2 q2 => ?_)
    refine qx_if_eq (tgt := 47) dX12_latest_39 (by decide) (fun c3 => ?_) (fun c3 => ?_)
    · skip
      refine q_iload_n dX12_latest_47 rfl rfl ?_
      refine qx_istore_n (L' := [(2, 188), (0, x), (0, y), (0, v3), (0, v4)]) dX12_latest_48 rfl rfl rfl rfl ?_
      refine q_aload_n dX12_latest_49 rfl rfl ?_
      refine qx_invV (ci := 12) [] [(2, 188)] rfl qM_X12_goOn dX12_latest_50 tw1567 rfl qs188 rfl rfl rfl rfl (l3 c1 r2 m2 p2 q2 c3) (fun r4 m4 p4 q4 => ?_)
      refine q_pop dX12_latest_53 (fun h => by cases h) ?_
      refine qx_iinc (L' := [(2, 188), (0, x), (0, y), (0, v3), (0, (v4 + 1))]) dX12_latest_54 rfl rfl rfl (o4 c1 r2 m2 p2 q2 c3 r4 m4 p4 q4) rfl ?_
      refine q_goto (tgt := 25) dX12_latest_57 (by decide) ?_
      exact l5 c1 r2 m2 p2 q2 c3 r4 m4 p4 q4
    · skip
      refine q_iload dX12_latest_42 rfl ?_
      refine q_goto (tgt := 48) dX12_latest_44 (by decide) ?_
      refine qx_istore_n (L' := [(2, 188), (0, x), (0, y), (0, v4), (0, v4)]) dX12_latest_48 rfl rfl rfl rfl ?_
      refine q_aload_n dX12_latest_49 rfl rfl ?_
      refine qx_invV (ci := 12) [] [(2, 188)] rfl qM_X12_goOn dX12_latest_50 tw1567 rfl qs188 rfl rfl rfl rfl (l6 c1 r2 m2 p2 q2 c3) (fun r5 m5 p5 q5 => ?_)
      refine q_pop dX12_latest_53 (fun h => by cases h) ?_
      refine qx_iinc (L' := [(2, 188), (0, x), (0, y), (0, v4), (0, (v4 + 1))]) dX12_latest_54 rfl rfl rfl (o7 c1 r2 m2 p2 q2 c3 r5 m5 p5 q5) rfl ?_
      refine q_goto (tgt := 25) dX12_latest_57 (by decide) ?_
      exact l8 c1 r2 m2 p2 q2 c3 r5 m5 p5 q5
