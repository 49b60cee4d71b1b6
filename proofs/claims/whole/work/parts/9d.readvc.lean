theorem dX6_open_0 : decode cX6_open 0 = .ok (.aload_n 0, 1) := by decide +kernel
theorem dX6_open_1 : decode cX6_open 1 = .ok (.aload_n 0, 1) := by decide +kernel
theorem dX6_open_2 : decode cX6_open 2 = .ok (.getfield 15, 3) := by decide +kernel
theorem dX6_open_5 : decode cX6_open 5 = .ok (.iload_n 1, 1) := by decide +kernel
theorem dX6_open_6 : decode cX6_open 6 = .ok (.invokestatic 19, 3) := by decide +kernel
theorem dX6_open_9 : decode cX6_open 9 = .ok (.putfield 25, 3) := by decide +kernel
theorem dX6_open_12 : decode cX6_open 12 = .ok (.aload_n 0, 1) := by decide +kernel
theorem dX6_open_13 : decode cX6_open 13 = .ok (.iconst 0, 1) := by decide +kernel
theorem dX6_open_14 : decode cX6_open 14 = .ok (.putfield 28, 3) := by decide +kernel
theorem dX6_open_17 : decode cX6_open 17 = .ok (.aload_n 0, 1) := by decide +kernel
theorem dX6_open_18 : decode cX6_open 18 = .ok (.iconst (-1), 1) := by decide +kernel
theorem dX6_open_19 : decode cX6_open 19 = .ok (.putfield 31, 3) := by decide +kernel
theorem dX6_open_22 : decode cX6_open 22 = .ok (.return_, 1) := by decide +kernel
theorem bkX6_open_0 {b : Int} {mem : qm} {Q : Int → qm → Prop}
    {v : Int}
    (l1 : Q 0 (q_up (q_up (q_up mem 145 2 (min (mem 145 1) v)) 145 3 0) 145 4 (-1))) :
    q_At yX6_open cX6_open 2 none 1 0 0 (qK (q_rb b) Q) 0 [(2, 145), (0, v)] [] (q_sh0, q_rb b, mem) := by
  refine q_aload_n dX6_open_0 rfl rfl ?_
  refine q_aload_n dX6_open_1 rfl rfl ?_
  refine qx_getI (ci := 6) (k := 1) (v := (mem 145 1)) dX6_open_2 rfl rfl rfl tw210 rfl qs145 rfl ?_
  refine q_iload_n dX6_open_5 rfl rfl ?_
  refine q_min dX6_open_6 tw428 tw429 tw15 tw430 (by decide) (Nat.le_of_ble_eq_true rfl) ?_
  refine q_putI (ci := 6) (k := 2) (kI := 2) (ty := .int) dX6_open_9 rfl (by decide) rfl tw214 rfl rfl rfl (fun _ => ⟨rfl, rfl⟩) qs145 ?_
  refine q_aload_n dX6_open_12 rfl rfl ?_
  refine qx_iconst dX6_open_13 rfl rfl ?_
  refine q_putI (ci := 6) (k := 3) (kI := 3) (ty := .int) dX6_open_14 rfl (by decide) rfl tw215 rfl rfl rfl (fun _ => ⟨rfl, rfl⟩) qs145 ?_
  refine q_aload_n dX6_open_17 rfl rfl ?_
  refine qx_iconst dX6_open_18 rfl rfl ?_
  refine q_putI (ci := 6) (k := 4) (kI := 4) (ty := .int) dX6_open_19 rfl (by decide) rfl tw216 rfl rfl rfl (fun _ => ⟨rfl, rfl⟩) qs145 ?_
  exact q_vret dX6_open_22 (qK_i (l1))
theorem dX6_failAt_0 : decode cX6_failAt 0 = .ok (.aload_n 0, 1) := by decide +kernel
theorem dX6_failAt_1 : decode cX6_failAt 1 = .ok (.getfield 31, 3) := by decide +kernel
theorem dX6_failAt_4 : decode cX6_failAt 4 = .ok (.iconst (-1), 1) := by decide +kernel
theorem dX6_failAt_5 : decode cX6_failAt 5 = .ok (.if_icmp .ne 8, 3) := by decide +kernel
theorem dX6_failAt_8 : decode cX6_failAt 8 = .ok (.aload_n 0, 1) := by decide +kernel
theorem dX6_failAt_9 : decode cX6_failAt 9 = .ok (.iload_n 1, 1) := by decide +kernel
theorem dX6_failAt_10 : decode cX6_failAt 10 = .ok (.putfield 31, 3) := by decide +kernel
theorem dX6_failAt_13 : decode cX6_failAt 13 = .ok (.return_, 1) := by decide +kernel
theorem bkX6_failAt_0 {b : Int} {mem : qm} {Q : Int → qm → Prop}
    {v : Int}
    (l1 : (mem 145 4) ≠ (-1) → Q 0 mem)
    (l2 : (mem 145 4) = (-1) → Q 0 (q_up mem 145 4 v)) :
    q_At yX6_failAt cX6_failAt 2 none 1 0 0 (qK (q_rb b) Q) 0 [(2, 145), (0, v)] [] (q_sh0, q_rb b, mem) := by
  refine q_aload_n dX6_failAt_0 rfl rfl ?_
  refine qx_getI (ci := 6) (k := 4) (v := (mem 145 4)) dX6_failAt_1 rfl rfl rfl tw216 rfl qs145 rfl ?_
  refine qx_iconst dX6_failAt_4 rfl rfl ?_
  refine qx_icmp_ne (tgt := 13) dX6_failAt_5 (by decide) (fun c1 => ?_) (fun c1 => ?_)
  · skip
    exact q_vret dX6_failAt_13 (qK_i (l1 c1))
  · skip
    refine q_aload_n dX6_failAt_8 rfl rfl ?_
    refine q_iload_n dX6_failAt_9 rfl rfl ?_
    refine q_putI (ci := 6) (k := 4) (kI := 4) (ty := .int) dX6_failAt_10 rfl (by decide) rfl tw216 rfl rfl rfl (fun _ => ⟨rfl, rfl⟩) qs145 ?_
    exact q_vret dX6_failAt_13 (qK_i (l2 c1))
theorem dX6_close_0 : decode cX6_close 0 = .ok (.aload_n 0, 1) := by decide +kernel
theorem dX6_close_1 : decode cX6_close 1 = .ok (.getfield 28, 3) := by decide +kernel
theorem dX6_close_4 : decode cX6_close 4 = .ok (.aload_n 0, 1) := by decide +kernel
theorem dX6_close_5 : decode cX6_close 5 = .ok (.getfield 25, 3) := by decide +kernel
theorem dX6_close_8 : decode cX6_close 8 = .ok (.if_icmp .ge 11, 3) := by decide +kernel
theorem dX6_close_11 : decode cX6_close 11 = .ok (.aload_n 0, 1) := by decide +kernel
theorem dX6_close_12 : decode cX6_close 12 = .ok (.aload_n 0, 1) := by decide +kernel
theorem dX6_close_13 : decode cX6_close 13 = .ok (.getfield 28, 3) := by decide +kernel
theorem dX6_close_16 : decode cX6_close 16 = .ok (.invokevirtual 34, 3) := by decide +kernel
theorem dX6_close_19 : decode cX6_close 19 = .ok (.aload_n 0, 1) := by decide +kernel
theorem dX6_close_20 : decode cX6_close 20 = .ok (.getfield 15, 3) := by decide +kernel
theorem dX6_close_23 : decode cX6_close 23 = .ok (.iload_n 1, 1) := by decide +kernel
theorem dX6_close_24 : decode cX6_close 24 = .ok (.if_icmp .le 8, 3) := by decide +kernel
theorem dX6_close_27 : decode cX6_close 27 = .ok (.aload_n 0, 1) := by decide +kernel
theorem dX6_close_28 : decode cX6_close 28 = .ok (.iload_n 1, 1) := by decide +kernel
theorem dX6_close_29 : decode cX6_close 29 = .ok (.invokevirtual 34, 3) := by decide +kernel
theorem dX6_close_32 : decode cX6_close 32 = .ok (.aload_n 0, 1) := by decide +kernel
theorem dX6_close_33 : decode cX6_close 33 = .ok (.getfield 31, 3) := by decide +kernel
theorem dX6_close_36 : decode cX6_close 36 = .ok (.iconst (-1), 1) := by decide +kernel
theorem dX6_close_37 : decode cX6_close 37 = .ok (.if_icmp .ne 7, 3) := by decide +kernel
theorem dX6_close_40 : decode cX6_close 40 = .ok (.iconst 0, 1) := by decide +kernel
theorem dX6_close_41 : decode cX6_close 41 = .ok (.goto 9, 3) := by decide +kernel
theorem dX6_close_44 : decode cX6_close 44 = .ok (.iconst (-1), 1) := by decide +kernel
theorem dX6_close_45 : decode cX6_close 45 = .ok (.aload_n 0, 1) := by decide +kernel
theorem dX6_close_46 : decode cX6_close 46 = .ok (.getfield 31, 3) := by decide +kernel
theorem dX6_close_49 : decode cX6_close 49 = .ok (.isub, 1) := by decide +kernel
theorem dX6_close_50 : decode cX6_close 50 = .ok (.ireturn, 1) := by decide +kernel
theorem bkX6_close_0 {b : Int} {mem : qm} {Q : Int → qm → Prop}
    {v : Int}
    (o1 : (mem 145 2) ≤ (mem 145 3) → (mem 145 1) ≤ v → (mem 145 4) ≠ (-1) → q_in32 ((-1) - (mem 145 4)))
    (l2 : (mem 145 2) ≤ (mem 145 3) → (mem 145 1) ≤ v → (mem 145 4) ≠ (-1) → Q ((-1) - (mem 145 4)) mem)
    (l3 : (mem 145 2) ≤ (mem 145 3) → (mem 145 1) ≤ v → (mem 145 4) = (-1) → Q 0 mem)
    {P4 : Int → qm → Prop}
    (l4 : (mem 145 2) ≤ (mem 145 3) → v < (mem 145 1) → q_Ev yX6_failAt cX6_failAt 2 none 1 0 0 [(2, 145), (0, v)] (q_sh0, q_rb b, mem) (qK (q_rb b) (P4)))
    (o5 : (mem 145 2) ≤ (mem 145 3) → v < (mem 145 1) → ∀ (r4 : Int), ∀ (m4 : qm), P4 r4 m4 → q_in32 r4 → (m4 145 4) ≠ (-1) → q_in32 ((-1) - (m4 145 4)))
    (l6 : (mem 145 2) ≤ (mem 145 3) → v < (mem 145 1) → ∀ (r4 : Int), ∀ (m4 : qm), P4 r4 m4 → q_in32 r4 → (m4 145 4) ≠ (-1) → Q ((-1) - (m4 145 4)) m4)
    (l7 : (mem 145 2) ≤ (mem 145 3) → v < (mem 145 1) → ∀ (r4 : Int), ∀ (m4 : qm), P4 r4 m4 → q_in32 r4 → (m4 145 4) = (-1) → Q 0 m4)
    {P6 : Int → qm → Prop}
    (l8 : (mem 145 3) < (mem 145 2) → q_Ev yX6_failAt cX6_failAt 2 none 1 0 0 [(2, 145), (0, (mem 145 3))] (q_sh0, q_rb b, mem) (qK (q_rb b) (P6)))
    (o9 : (mem 145 3) < (mem 145 2) → ∀ (r6 : Int), ∀ (m6 : qm), P6 r6 m6 → q_in32 r6 → (m6 145 1) ≤ v → (m6 145 4) ≠ (-1) → q_in32 ((-1) - (m6 145 4)))
    (l10 : (mem 145 3) < (mem 145 2) → ∀ (r6 : Int), ∀ (m6 : qm), P6 r6 m6 → q_in32 r6 → (m6 145 1) ≤ v → (m6 145 4) ≠ (-1) → Q ((-1) - (m6 145 4)) m6)
    (l11 : (mem 145 3) < (mem 145 2) → ∀ (r6 : Int), ∀ (m6 : qm), P6 r6 m6 → q_in32 r6 → (m6 145 1) ≤ v → (m6 145 4) = (-1) → Q 0 m6)
    {P9 : Int → qm → Int → qm → Prop}
    (l12 : (mem 145 3) < (mem 145 2) → ∀ (r6 : Int), ∀ (m6 : qm), P6 r6 m6 → q_in32 r6 → v < (m6 145 1) → q_Ev yX6_failAt cX6_failAt 2 none 1 0 0 [(2, 145), (0, v)] (q_sh0, q_rb b, m6) (qK (q_rb b) (P9 r6 m6)))
    (o13 : (mem 145 3) < (mem 145 2) → ∀ (r6 : Int), ∀ (m6 : qm), P6 r6 m6 → q_in32 r6 → v < (m6 145 1) → ∀ (r9 : Int), ∀ (m9 : qm), P9 r6 m6 r9 m9 → q_in32 r9 → (m9 145 4) ≠ (-1) → q_in32 ((-1) - (m9 145 4)))
    (l14 : (mem 145 3) < (mem 145 2) → ∀ (r6 : Int), ∀ (m6 : qm), P6 r6 m6 → q_in32 r6 → v < (m6 145 1) → ∀ (r9 : Int), ∀ (m9 : qm), P9 r6 m6 r9 m9 → q_in32 r9 → (m9 145 4) ≠ (-1) → Q ((-1) - (m9 145 4)) m9)
    (l15 : (mem 145 3) < (mem 145 2) → ∀ (r6 : Int), ∀ (m6 : qm), P6 r6 m6 → q_in32 r6 → v < (m6 145 1) → ∀ (r9 : Int), ∀ (m9 : qm), P9 r6 m6 r9 m9 → q_in32 r9 → (m9 145 4) = (-1) → Q 0 m9) :
    q_At yX6_close cX6_close 2 (some .int) 2 0 0 (qK (q_rb b) Q) 0 [(2, 145), (0, v)] [] (q_sh0, q_rb b, mem) := by
  refine q_aload_n dX6_close_0 rfl rfl ?_
  refine qx_getI (ci := 6) (k := 3) (v := (mem 145 3)) dX6_close_1 rfl rfl rfl tw215 rfl qs145 rfl ?_
  refine q_aload_n dX6_close_4 rfl rfl ?_
  refine qx_getI (ci := 6) (k := 2) (v := (mem 145 2)) dX6_close_5 rfl rfl rfl tw214 rfl qs145 rfl ?_
  refine qx_icmp_ge (tgt := 19) dX6_close_8 (by decide) (fun c1 => ?_) (fun c1 => ?_)
  · skip
    refine q_aload_n dX6_close_19 rfl rfl ?_
    refine qx_getI (ci := 6) (k := 1) (v := (mem 145 1)) dX6_close_20 rfl rfl rfl tw210 rfl qs145 rfl ?_
    refine q_iload_n dX6_close_23 rfl rfl ?_
    refine qx_icmp_le (tgt := 32) dX6_close_24 (by decide) (fun c2 => ?_) (fun c2 => ?_)
    · skip
      refine q_aload_n dX6_close_32 rfl rfl ?_
      refine qx_getI (ci := 6) (k := 4) (v := (mem 145 4)) dX6_close_33 rfl rfl rfl tw216 rfl qs145 rfl ?_
      refine qx_iconst dX6_close_36 rfl rfl ?_
      refine qx_icmp_ne (tgt := 44) dX6_close_37 (by decide) (fun c3 => ?_) (fun c3 => ?_)
      · skip
        refine qx_iconst dX6_close_44 rfl rfl ?_
        refine q_aload_n dX6_close_45 rfl rfl ?_
        refine qx_getI (ci := 6) (k := 4) (v := (mem 145 4)) dX6_close_46 rfl rfl rfl tw216 rfl qs145 rfl ?_
        refine qx_isub dX6_close_49 (o1 c1 c2 c3) ?_
        exact q_iret dX6_close_50 (qK_i (l2 c1 c2 c3))
      · skip
        refine qx_iconst dX6_close_40 rfl rfl ?_
        refine q_goto (tgt := 50) dX6_close_41 (by decide) ?_
        exact q_iret dX6_close_50 (qK_i (l3 c1 c2 c3))
    · skip
      refine q_aload_n dX6_close_27 rfl rfl ?_
      refine q_iload_n dX6_close_28 rfl rfl ?_
      refine qx_invV (ci := 6) [(0, v)] [(0, v), (2, 145)] rfl qM_X6_failAt dX6_close_29 tw455 rfl qs145 rfl rfl rfl rfl (l4 c1 c2) (fun r4 m4 p4 q4 => ?_)
      refine q_aload_n dX6_close_32 rfl rfl ?_
      refine qx_getI (ci := 6) (k := 4) (v := (m4 145 4)) dX6_close_33 rfl rfl rfl tw216 rfl qs145 rfl ?_
      refine qx_iconst dX6_close_36 rfl rfl ?_
      refine qx_icmp_ne (tgt := 44) dX6_close_37 (by decide) (fun c5 => ?_) (fun c5 => ?_)
      · skip
        refine qx_iconst dX6_close_44 rfl rfl ?_
        refine q_aload_n dX6_close_45 rfl rfl ?_
        refine qx_getI (ci := 6) (k := 4) (v := (m4 145 4)) dX6_close_46 rfl rfl rfl tw216 rfl qs145 rfl ?_
        refine qx_isub dX6_close_49 (o5 c1 c2 r4 m4 p4 q4 c5) ?_
        exact q_iret dX6_close_50 (qK_i (l6 c1 c2 r4 m4 p4 q4 c5))
      · skip
        refine qx_iconst dX6_close_40 rfl rfl ?_
        refine q_goto (tgt := 50) dX6_close_41 (by decide) ?_
        exact q_iret dX6_close_50 (qK_i (l7 c1 c2 r4 m4 p4 q4 c5))
  · skip
    refine q_aload_n dX6_close_11 rfl rfl ?_
    refine q_aload_n dX6_close_12 rfl rfl ?_
    refine qx_getI (ci := 6) (k := 3) (v := (mem 145 3)) dX6_close_13 rfl rfl rfl tw215 rfl qs145 rfl ?_
    refine qx_invV (ci := 6) [(0, (mem 145 3))] [(0, (mem 145 3)), (2, 145)] rfl qM_X6_failAt dX6_close_16 tw455 rfl qs145 rfl rfl rfl rfl (l8 c1) (fun r6 m6 p6 q6 => ?_)
    refine q_aload_n dX6_close_19 rfl rfl ?_
    refine qx_getI (ci := 6) (k := 1) (v := (m6 145 1)) dX6_close_20 rfl rfl rfl tw210 rfl qs145 rfl ?_
    refine q_iload_n dX6_close_23 rfl rfl ?_
    refine qx_icmp_le (tgt := 32) dX6_close_24 (by decide) (fun c7 => ?_) (fun c7 => ?_)
    · skip
      refine q_aload_n dX6_close_32 rfl rfl ?_
      refine qx_getI (ci := 6) (k := 4) (v := (m6 145 4)) dX6_close_33 rfl rfl rfl tw216 rfl qs145 rfl ?_
      refine qx_iconst dX6_close_36 rfl rfl ?_
      refine qx_icmp_ne (tgt := 44) dX6_close_37 (by decide) (fun c8 => ?_) (fun c8 => ?_)
      · skip
        refine qx_iconst dX6_close_44 rfl rfl ?_
        refine q_aload_n dX6_close_45 rfl rfl ?_
        refine qx_getI (ci := 6) (k := 4) (v := (m6 145 4)) dX6_close_46 rfl rfl rfl tw216 rfl qs145 rfl ?_
        refine qx_isub dX6_close_49 (o9 c1 r6 m6 p6 q6 c7 c8) ?_
        exact q_iret dX6_close_50 (qK_i (l10 c1 r6 m6 p6 q6 c7 c8))
      · skip
        refine qx_iconst dX6_close_40 rfl rfl ?_
        refine q_goto (tgt := 50) dX6_close_41 (by decide) ?_
        exact q_iret dX6_close_50 (qK_i (l11 c1 r6 m6 p6 q6 c7 c8))
    · skip
      refine q_aload_n dX6_close_27 rfl rfl ?_
      refine q_iload_n dX6_close_28 rfl rfl ?_
      refine qx_invV (ci := 6) [(0, v)] [(0, v), (2, 145)] rfl qM_X6_failAt dX6_close_29 tw455 rfl qs145 rfl rfl rfl rfl (l12 c1 r6 m6 p6 q6 c7) (fun r9 m9 p9 q9 => ?_)
      refine q_aload_n dX6_close_32 rfl rfl ?_
      refine qx_getI (ci := 6) (k := 4) (v := (m9 145 4)) dX6_close_33 rfl rfl rfl tw216 rfl qs145 rfl ?_
      refine qx_iconst dX6_close_36 rfl rfl ?_
      refine qx_icmp_ne (tgt := 44) dX6_close_37 (by decide) (fun c10 => ?_) (fun c10 => ?_)
      · skip
        refine qx_iconst dX6_close_44 rfl rfl ?_
        refine q_aload_n dX6_close_45 rfl rfl ?_
        refine qx_getI (ci := 6) (k := 4) (v := (m9 145 4)) dX6_close_46 rfl rfl rfl tw216 rfl qs145 rfl ?_
        refine qx_isub dX6_close_49 (o13 c1 r6 m6 p6 q6 c7 r9 m9 p9 q9 c10) ?_
        exact q_iret dX6_close_50 (qK_i (l14 c1 r6 m6 p6 q6 c7 r9 m9 p9 q9 c10))
      · skip
        refine qx_iconst dX6_close_40 rfl rfl ?_
        refine q_goto (tgt := 50) dX6_close_41 (by decide) ?_
        exact q_iret dX6_close_50 (qK_i (l15 c1 r6 m6 p6 q6 c7 r9 m9 p9 q9 c10))
theorem dX6_isFine_0 : decode cX6_isFine 0 = .ok (.aload_n 0, 1) := by decide +kernel
theorem dX6_isFine_1 : decode cX6_isFine 1 = .ok (.getfield 31, 3) := by decide +kernel
theorem dX6_isFine_4 : decode cX6_isFine 4 = .ok (.iconst (-1), 1) := by decide +kernel
theorem dX6_isFine_5 : decode cX6_isFine 5 = .ok (.if_icmp .ne 7, 3) := by decide +kernel
theorem dX6_isFine_8 : decode cX6_isFine 8 = .ok (.iconst 1, 1) := by decide +kernel
theorem dX6_isFine_9 : decode cX6_isFine 9 = .ok (.goto 4, 3) := by decide +kernel
theorem dX6_isFine_12 : decode cX6_isFine 12 = .ok (.iconst 0, 1) := by decide +kernel
theorem dX6_isFine_13 : decode cX6_isFine 13 = .ok (.ireturn, 1) := by decide +kernel
theorem bkX6_isFine_0 {b : Int} {mem : qm} {Q : Int → qm → Prop}
    (l1 : (mem 145 4) ≠ (-1) → Q 0 mem)
    (l2 : (mem 145 4) = (-1) → Q 1 mem) :
    q_At yX6_isFine cX6_isFine 1 (some .boolean) 1 0 0 (qK (q_rb b) Q) 0 [(2, 145)] [] (q_sh0, q_rb b, mem) := by
  refine q_aload_n dX6_isFine_0 rfl rfl ?_
  refine qx_getI (ci := 6) (k := 4) (v := (mem 145 4)) dX6_isFine_1 rfl rfl rfl tw216 rfl qs145 rfl ?_
  refine qx_iconst dX6_isFine_4 rfl rfl ?_
  refine qx_icmp_ne (tgt := 12) dX6_isFine_5 (by decide) (fun c1 => ?_) (fun c1 => ?_)
  · skip
    refine qx_iconst dX6_isFine_12 rfl rfl ?_
    exact q_zret dX6_isFine_13 (by decide) (qK_i (l1 c1))
  · skip
    refine qx_iconst dX6_isFine_8 rfl rfl ?_
    refine q_goto (tgt := 13) dX6_isFine_9 (by decide) ?_
    exact q_zret dX6_isFine_13 (by decide) (qK_i (l2 c1))
theorem dX6_failHere_0 : decode cX6_failHere 0 = .ok (.aload_n 0, 1) := by decide +kernel
theorem dX6_failHere_1 : decode cX6_failHere 1 = .ok (.aload_n 0, 1) := by decide +kernel
theorem dX6_failHere_2 : decode cX6_failHere 2 = .ok (.getfield 28, 3) := by decide +kernel
theorem dX6_failHere_5 : decode cX6_failHere 5 = .ok (.invokevirtual 34, 3) := by decide +kernel
theorem dX6_failHere_8 : decode cX6_failHere 8 = .ok (.return_, 1) := by decide +kernel
theorem bkX6_failHere_0 {b : Int} {mem : qm} {Q : Int → qm → Prop}
    {P1 : Int → qm → Prop}
    (l1 : q_Ev yX6_failAt cX6_failAt 2 none 1 0 0 [(2, 145), (0, (mem 145 3))] (q_sh0, q_rb b, mem) (qK (q_rb b) (P1)))
    (l2 : ∀ (r1 : Int), ∀ (m1 : qm), P1 r1 m1 → q_in32 r1 → Q 0 m1) :
    q_At yX6_failHere cX6_failHere 1 none 2 0 0 (qK (q_rb b) Q) 0 [(2, 145)] [] (q_sh0, q_rb b, mem) := by
  refine q_aload_n dX6_failHere_0 rfl rfl ?_
  refine q_aload_n dX6_failHere_1 rfl rfl ?_
  refine qx_getI (ci := 6) (k := 3) (v := (mem 145 3)) dX6_failHere_2 rfl rfl rfl tw215 rfl qs145 rfl ?_
  refine qx_invV (ci := 6) [(0, (mem 145 3))] [(0, (mem 145 3)), (2, 145)] rfl qM_X6_failAt dX6_failHere_5 tw455 rfl qs145 rfl rfl rfl rfl (l1) (fun r1 m1 p1 q1 => ?_)
  exact q_vret dX6_failHere_8 (qK_i (l2 r1 m1 p1 q1))
theorem dX6_failAtLast_0 : decode cX6_failAtLast 0 = .ok (.aload_n 0, 1) := by decide +kernel
theorem dX6_failAtLast_1 : decode cX6_failAtLast 1 = .ok (.aload_n 0, 1) := by decide +kernel
theorem dX6_failAtLast_2 : decode cX6_failAtLast 2 = .ok (.getfield 28, 3) := by decide +kernel
theorem dX6_failAtLast_5 : decode cX6_failAtLast 5 = .ok (.iconst 1, 1) := by decide +kernel
theorem dX6_failAtLast_6 : decode cX6_failAtLast 6 = .ok (.isub, 1) := by decide +kernel
theorem dX6_failAtLast_7 : decode cX6_failAtLast 7 = .ok (.invokevirtual 34, 3) := by decide +kernel
theorem dX6_failAtLast_10 : decode cX6_failAtLast 10 = .ok (.return_, 1) := by decide +kernel
theorem bkX6_failAtLast_0 {b : Int} {mem : qm} {Q : Int → qm → Prop}
    (o1 : q_in32 ((mem 145 3) - 1))
    {P1 : Int → qm → Prop}
    (l2 : q_Ev yX6_failAt cX6_failAt 2 none 1 0 0 [(2, 145), (0, ((mem 145 3) - 1))] (q_sh0, q_rb b, mem) (qK (q_rb b) (P1)))
    (l3 : ∀ (r1 : Int), ∀ (m1 : qm), P1 r1 m1 → q_in32 r1 → Q 0 m1) :
    q_At yX6_failAtLast cX6_failAtLast 1 none 2 0 0 (qK (q_rb b) Q) 0 [(2, 145)] [] (q_sh0, q_rb b, mem) := by
  refine q_aload_n dX6_failAtLast_0 rfl rfl ?_
  refine q_aload_n dX6_failAtLast_1 rfl rfl ?_
  refine qx_getI (ci := 6) (k := 3) (v := (mem 145 3)) dX6_failAtLast_2 rfl rfl rfl tw215 rfl qs145 rfl ?_
  refine qx_iconst dX6_failAtLast_5 rfl rfl ?_
  refine qx_isub dX6_failAtLast_6 (o1) ?_
  refine qx_invV (ci := 6) [(0, ((mem 145 3) - 1))] [(0, ((mem 145 3) - 1)), (2, 145)] rfl qM_X6_failAt dX6_failAtLast_7 tw455 rfl qs145 rfl rfl rfl rfl (l2) (fun r1 m1 p1 q1 => ?_)
  exact q_vret dX6_failAtLast_10 (qK_i (l3 r1 m1 p1 q1))
theorem dX6_peek_0 : decode cX6_peek 0 = .ok (.aload_n 0, 1) := by decide +kernel
theorem dX6_peek_1 : decode cX6_peek 1 = .ok (.getfield 31, 3) := by decide +kernel
theorem dX6_peek_4 : decode cX6_peek 4 = .ok (.iconst (-1), 1) := by decide +kernel
theorem dX6_peek_5 : decode cX6_peek 5 = .ok (.if_icmp .ne 26, 3) := by decide +kernel
theorem dX6_peek_8 : decode cX6_peek 8 = .ok (.aload_n 0, 1) := by decide +kernel
theorem dX6_peek_9 : decode cX6_peek 9 = .ok (.getfield 28, 3) := by decide +kernel
theorem dX6_peek_12 : decode cX6_peek 12 = .ok (.aload_n 0, 1) := by decide +kernel
theorem dX6_peek_13 : decode cX6_peek 13 = .ok (.getfield 25, 3) := by decide +kernel
theorem dX6_peek_16 : decode cX6_peek 16 = .ok (.if_icmp .ge 15, 3) := by decide +kernel
theorem dX6_peek_19 : decode cX6_peek 19 = .ok (.aload_n 0, 1) := by decide +kernel
theorem dX6_peek_20 : decode cX6_peek 20 = .ok (.getfield 9, 3) := by decide +kernel
theorem dX6_peek_23 : decode cX6_peek 23 = .ok (.aload_n 0, 1) := by decide +kernel
theorem dX6_peek_24 : decode cX6_peek 24 = .ok (.getfield 28, 3) := by decide +kernel
theorem dX6_peek_27 : decode cX6_peek 27 = .ok (.iaload, 1) := by decide +kernel
theorem dX6_peek_28 : decode cX6_peek 28 = .ok (.goto 4, 3) := by decide +kernel
theorem dX6_peek_31 : decode cX6_peek 31 = .ok (.iconst (-1), 1) := by decide +kernel
theorem dX6_peek_32 : decode cX6_peek 32 = .ok (.ireturn, 1) := by decide +kernel
theorem bkX6_peek_0 {b : Int} {mem : qm} {Q : Int → qm → Prop}
    (l1 : (mem 145 4) ≠ (-1) → Q (-1) mem)
    (l2 : (mem 145 4) = (-1) → (mem 145 2) ≤ (mem 145 3) → Q (-1) mem)
    (o3 : (mem 145 4) = (-1) → (mem 145 3) < (mem 145 2) → (0 ≤ (mem 145 3) ∧ (mem 145 3) < 80))
    (l4 : (mem 145 4) = (-1) → (mem 145 3) < (mem 145 2) → Q (mem 146 (mem 145 3)) mem) :
    q_At yX6_peek cX6_peek 1 (some .int) 1 0 0 (qK (q_rb b) Q) 0 [(2, 145)] [] (q_sh0, q_rb b, mem) := by
  refine q_aload_n dX6_peek_0 rfl rfl ?_
  refine qx_getI (ci := 6) (k := 4) (v := (mem 145 4)) dX6_peek_1 rfl rfl rfl tw216 rfl qs145 rfl ?_
  refine qx_iconst dX6_peek_4 rfl rfl ?_
  refine qx_icmp_ne (tgt := 31) dX6_peek_5 (by decide) (fun c1 => ?_) (fun c1 => ?_)
  · skip
    refine qx_iconst dX6_peek_31 rfl rfl ?_
    exact q_iret dX6_peek_32 (qK_i (l1 c1))
  · skip
    refine q_aload_n dX6_peek_8 rfl rfl ?_
    refine qx_getI (ci := 6) (k := 3) (v := (mem 145 3)) dX6_peek_9 rfl rfl rfl tw215 rfl qs145 rfl ?_
    refine q_aload_n dX6_peek_12 rfl rfl ?_
    refine qx_getI (ci := 6) (k := 2) (v := (mem 145 2)) dX6_peek_13 rfl rfl rfl tw214 rfl qs145 rfl ?_
    refine qx_icmp_ge (tgt := 31) dX6_peek_16 (by decide) (fun c2 => ?_) (fun c2 => ?_)
    · skip
      refine qx_iconst dX6_peek_31 rfl rfl ?_
      exact q_iret dX6_peek_32 (qK_i (l2 c1 c2))
    · skip
      refine q_aload_n dX6_peek_19 rfl rfl ?_
      refine q_getR (ci := 6) (k := 0) dX6_peek_20 rfl (by decide) rfl tw209 (by decide) qs145 qw145_0 (by decide) ?_
      refine q_aload_n dX6_peek_23 rfl rfl ?_
      refine qx_getI (ci := 6) (k := 3) (v := (mem 145 3)) dX6_peek_24 rfl rfl rfl tw215 rfl qs145 rfl ?_
      refine qx_iald (v := (mem 146 (mem 145 3))) dX6_peek_27 qs146 (o3 c1 c2) rfl ?_
      refine q_goto (tgt := 32) dX6_peek_28 (by decide) ?_
      exact q_iret dX6_peek_32 (qK_i (l4 c1 c2))
theorem dX6_sees_0 : decode cX6_sees 0 = .ok (.aload_n 0, 1) := by decide +kernel
theorem dX6_sees_1 : decode cX6_sees 1 = .ok (.invokevirtual 38, 3) := by decide +kernel
theorem dX6_sees_4 : decode cX6_sees 4 = .ok (.iload_n 1, 1) := by decide +kernel
theorem dX6_sees_5 : decode cX6_sees 5 = .ok (.if_icmp .ne 7, 3) := by decide +kernel
theorem dX6_sees_8 : decode cX6_sees 8 = .ok (.iconst 1, 1) := by decide +kernel
theorem dX6_sees_9 : decode cX6_sees 9 = .ok (.goto 4, 3) := by decide +kernel
theorem dX6_sees_12 : decode cX6_sees 12 = .ok (.iconst 0, 1) := by decide +kernel
theorem dX6_sees_13 : decode cX6_sees 13 = .ok (.ireturn, 1) := by decide +kernel
theorem bkX6_sees_0 {b : Int} {mem : qm} {Q : Int → qm → Prop}
    {v : Int}
    {P1 : Int → qm → Prop}
    (l1 : q_Ev yX6_peek cX6_peek 1 (some .int) 1 0 0 [(2, 145)] (q_sh0, q_rb b, mem) (qK (q_rb b) (P1)))
    (l2 : ∀ (r1 : Int), ∀ (m1 : qm), P1 r1 m1 → q_in32 r1 → r1 ≠ v → Q 0 m1)
    (l3 : ∀ (r1 : Int), ∀ (m1 : qm), P1 r1 m1 → q_in32 r1 → r1 = v → Q 1 m1) :
    q_At yX6_sees cX6_sees 2 (some .boolean) 2 0 0 (qK (q_rb b) Q) 0 [(2, 145), (0, v)] [] (q_sh0, q_rb b, mem) := by
  refine q_aload_n dX6_sees_0 rfl rfl ?_
  refine qx_invV (ci := 6) [] [(2, 145)] rfl qM_X6_peek dX6_sees_1 tw439 rfl qs145 rfl rfl rfl rfl (l1) (fun r1 m1 p1 q1 => ?_)
  refine q_iload_n dX6_sees_4 rfl rfl ?_
  refine qx_icmp_ne (tgt := 12) dX6_sees_5 (by decide) (fun c2 => ?_) (fun c2 => ?_)
  · skip
    refine qx_iconst dX6_sees_12 rfl rfl ?_
    exact q_zret dX6_sees_13 (by decide) (qK_i (l2 r1 m1 p1 q1 c2))
  · skip
    refine qx_iconst dX6_sees_8 rfl rfl ?_
    refine q_goto (tgt := 13) dX6_sees_9 (by decide) ?_
    exact q_zret dX6_sees_13 (by decide) (qK_i (l3 r1 m1 p1 q1 c2))
theorem dX6_seesDigit_0 : decode cX6_seesDigit 0 = .ok (.aload_n 0, 1) := by decide +kernel
theorem dX6_seesDigit_1 : decode cX6_seesDigit 1 = .ok (.invokevirtual 38, 3) := by decide +kernel
theorem dX6_seesDigit_4 : decode cX6_seesDigit 4 = .ok (.istore_n 1, 1) := by decide +kernel
theorem dX6_seesDigit_5 : decode cX6_seesDigit 5 = .ok (.iload_n 1, 1) := by decide +kernel
theorem dX6_seesDigit_6 : decode cX6_seesDigit 6 = .ok (.bipush 48, 2) := by decide +kernel
theorem dX6_seesDigit_8 : decode cX6_seesDigit 8 = .ok (.if_icmp .lt 13, 3) := by decide +kernel
theorem dX6_seesDigit_11 : decode cX6_seesDigit 11 = .ok (.iload_n 1, 1) := by decide +kernel
theorem dX6_seesDigit_12 : decode cX6_seesDigit 12 = .ok (.bipush 57, 2) := by decide +kernel
theorem dX6_seesDigit_14 : decode cX6_seesDigit 14 = .ok (.if_icmp .gt 7, 3) := by decide +kernel
theorem dX6_seesDigit_17 : decode cX6_seesDigit 17 = .ok (.iconst 1, 1) := by decide +kernel
theorem dX6_seesDigit_18 : decode cX6_seesDigit 18 = .ok (.goto 4, 3) := by decide +kernel
theorem dX6_seesDigit_21 : decode cX6_seesDigit 21 = .ok (.iconst 0, 1) := by decide +kernel
theorem dX6_seesDigit_22 : decode cX6_seesDigit 22 = .ok (.ireturn, 1) := by decide +kernel
theorem bkX6_seesDigit_0 {b : Int} {mem : qm} {Q : Int → qm → Prop}
    {P1 : Int → qm → Prop}
    (l1 : q_Ev yX6_peek cX6_peek 1 (some .int) 1 0 0 [(2, 145)] (q_sh0, q_rb b, mem) (qK (q_rb b) (P1)))
    (l2 : ∀ (r1 : Int), ∀ (m1 : qm), P1 r1 m1 → q_in32 r1 → r1 < 48 → Q 0 m1)
    (l3 : ∀ (r1 : Int), ∀ (m1 : qm), P1 r1 m1 → q_in32 r1 → 48 ≤ r1 → 57 < r1 → Q 0 m1)
    (l4 : ∀ (r1 : Int), ∀ (m1 : qm), P1 r1 m1 → q_in32 r1 → 48 ≤ r1 → r1 ≤ 57 → Q 1 m1) :
    q_At yX6_seesDigit cX6_seesDigit 2 (some .boolean) 2 0 0 (qK (q_rb b) Q) 0 [(2, 145), (4, 0)] [] (q_sh0, q_rb b, mem) := by
  refine q_aload_n dX6_seesDigit_0 rfl rfl ?_
  refine qx_invV (ci := 6) [] [(2, 145)] rfl qM_X6_peek dX6_seesDigit_1 tw439 rfl qs145 rfl rfl rfl rfl (l1) (fun r1 m1 p1 q1 => ?_)
  refine qx_istore_n (L' := [(2, 145), (0, r1)]) dX6_seesDigit_4 rfl rfl rfl rfl ?_
  refine q_iload_n dX6_seesDigit_5 rfl rfl ?_
  refine qx_bipush dX6_seesDigit_6 rfl rfl ?_
  refine qx_icmp_lt (tgt := 21) dX6_seesDigit_8 (by decide) (fun c2 => ?_) (fun c2 => ?_)
  · skip
    refine qx_iconst dX6_seesDigit_21 rfl rfl ?_
    exact q_zret dX6_seesDigit_22 (by decide) (qK_i (l2 r1 m1 p1 q1 c2))
  · skip
    refine q_iload_n dX6_seesDigit_11 rfl rfl ?_
    refine qx_bipush dX6_seesDigit_12 rfl rfl ?_
    refine qx_icmp_gt (tgt := 21) dX6_seesDigit_14 (by decide) (fun c3 => ?_) (fun c3 => ?_)
    · skip
      refine qx_iconst dX6_seesDigit_21 rfl rfl ?_
      exact q_zret dX6_seesDigit_22 (by decide) (qK_i (l3 r1 m1 p1 q1 c2 c3))
    · skip
      refine qx_iconst dX6_seesDigit_17 rfl rfl ?_
      refine q_goto (tgt := 22) dX6_seesDigit_18 (by decide) ?_
      exact q_zret dX6_seesDigit_22 (by decide) (qK_i (l4 r1 m1 p1 q1 c2 c3))
theorem dX6_next_0 : decode cX6_next 0 = .ok (.aload_n 0, 1) := by decide +kernel
theorem dX6_next_1 : decode cX6_next 1 = .ok (.invokevirtual 38, 3) := by decide +kernel
theorem dX6_next_4 : decode cX6_next 4 = .ok (.istore_n 1, 1) := by decide +kernel
theorem dX6_next_5 : decode cX6_next 5 = .ok (.iload_n 1, 1) := by decide +kernel
theorem dX6_next_6 : decode cX6_next 6 = .ok (.iconst (-1), 1) := by decide +kernel
theorem dX6_next_7 : decode cX6_next 7 = .ok (.if_icmp .eq 13, 3) := by decide +kernel
theorem dX6_next_10 : decode cX6_next 10 = .ok (.aload_n 0, 1) := by decide +kernel
theorem dX6_next_11 : decode cX6_next 11 = .ok (.dup, 1) := by decide +kernel
theorem dX6_next_12 : decode cX6_next 12 = .ok (.getfield 28, 3) := by decide +kernel
theorem dX6_next_15 : decode cX6_next 15 = .ok (.iconst 1, 1) := by decide +kernel
theorem dX6_next_16 : decode cX6_next 16 = .ok (.iadd, 1) := by decide +kernel
theorem dX6_next_17 : decode cX6_next 17 = .ok (.putfield 28, 3) := by decide +kernel
theorem dX6_next_20 : decode cX6_next 20 = .ok (.iload_n 1, 1) := by decide +kernel
theorem dX6_next_21 : decode cX6_next 21 = .ok (.ireturn, 1) := by decide +kernel
theorem bkX6_next_0 {b : Int} {mem : qm} {Q : Int → qm → Prop}
    {P1 : Int → qm → Prop}
    (l1 : q_Ev yX6_peek cX6_peek 1 (some .int) 1 0 0 [(2, 145)] (q_sh0, q_rb b, mem) (qK (q_rb b) (P1)))
    (l2 : ∀ (r1 : Int), ∀ (m1 : qm), P1 r1 m1 → q_in32 r1 → r1 = (-1) → Q r1 m1)
    (o3 : ∀ (r1 : Int), ∀ (m1 : qm), P1 r1 m1 → q_in32 r1 → r1 ≠ (-1) → q_in32 ((m1 145 3) + 1))
    (l4 : ∀ (r1 : Int), ∀ (m1 : qm), P1 r1 m1 → q_in32 r1 → r1 ≠ (-1) → Q r1 (q_up m1 145 3 ((m1 145 3) + 1))) :
    q_At yX6_next cX6_next 2 (some .int) 2 0 0 (qK (q_rb b) Q) 0 [(2, 145), (4, 0)] [] (q_sh0, q_rb b, mem) := by
  refine q_aload_n dX6_next_0 rfl rfl ?_
  refine qx_invV (ci := 6) [] [(2, 145)] rfl qM_X6_peek dX6_next_1 tw439 rfl qs145 rfl rfl rfl rfl (l1) (fun r1 m1 p1 q1 => ?_)
  refine qx_istore_n (L' := [(2, 145), (0, r1)]) dX6_next_4 rfl rfl rfl rfl ?_
  refine q_iload_n dX6_next_5 rfl rfl ?_
  refine qx_iconst dX6_next_6 rfl rfl ?_
  refine qx_icmp_eq (tgt := 20) dX6_next_7 (by decide) (fun c2 => ?_) (fun c2 => ?_)
  · skip
    refine q_iload_n dX6_next_20 rfl rfl ?_
    exact q_iret dX6_next_21 (qK_i (l2 r1 m1 p1 q1 c2))
  · skip
    refine q_aload_n dX6_next_10 rfl rfl ?_
    refine q_dup dX6_next_11 (fun h => by cases h) ?_
    refine qx_getI (ci := 6) (k := 3) (v := (m1 145 3)) dX6_next_12 rfl rfl rfl tw215 rfl qs145 rfl ?_
    refine qx_iconst dX6_next_15 rfl rfl ?_
    refine qx_iadd dX6_next_16 (o3 r1 m1 p1 q1 c2) ?_
    refine q_putI (ci := 6) (k := 3) (kI := 3) (ty := .int) dX6_next_17 rfl (by decide) rfl tw215 rfl rfl rfl (fun _ => ⟨rfl, rfl⟩) qs145 ?_
    refine q_iload_n dX6_next_20 rfl rfl ?_
    exact q_iret dX6_next_21 (qK_i (l4 r1 m1 p1 q1 c2))
theorem dX6_skip_0 : decode cX6_skip 0 = .ok (.aload_n 0, 1) := by decide +kernel
theorem dX6_skip_1 : decode cX6_skip 1 = .ok (.invokevirtual 38, 3) := by decide +kernel
theorem dX6_skip_4 : decode cX6_skip 4 = .ok (.iload_n 1, 1) := by decide +kernel
theorem dX6_skip_5 : decode cX6_skip 5 = .ok (.if_icmp .eq 5, 3) := by decide +kernel
theorem dX6_skip_8 : decode cX6_skip 8 = .ok (.iconst 0, 1) := by decide +kernel
theorem dX6_skip_9 : decode cX6_skip 9 = .ok (.ireturn, 1) := by decide +kernel
theorem dX6_skip_10 : decode cX6_skip 10 = .ok (.aload_n 0, 1) := by decide +kernel
theorem dX6_skip_11 : decode cX6_skip 11 = .ok (.dup, 1) := by decide +kernel
theorem dX6_skip_12 : decode cX6_skip 12 = .ok (.getfield 28, 3) := by decide +kernel
theorem dX6_skip_15 : decode cX6_skip 15 = .ok (.iconst 1, 1) := by decide +kernel
theorem dX6_skip_16 : decode cX6_skip 16 = .ok (.iadd, 1) := by decide +kernel
theorem dX6_skip_17 : decode cX6_skip 17 = .ok (.putfield 28, 3) := by decide +kernel
theorem dX6_skip_20 : decode cX6_skip 20 = .ok (.iconst 1, 1) := by decide +kernel
theorem dX6_skip_21 : decode cX6_skip 21 = .ok (.ireturn, 1) := by decide +kernel
theorem bkX6_skip_0 {b : Int} {mem : qm} {Q : Int → qm → Prop}
    {v : Int}
    {P1 : Int → qm → Prop}
    (l1 : q_Ev yX6_peek cX6_peek 1 (some .int) 1 0 0 [(2, 145)] (q_sh0, q_rb b, mem) (qK (q_rb b) (P1)))
    (o2 : ∀ (r1 : Int), ∀ (m1 : qm), P1 r1 m1 → q_in32 r1 → r1 = v → q_in32 ((m1 145 3) + 1))
    (l3 : ∀ (r1 : Int), ∀ (m1 : qm), P1 r1 m1 → q_in32 r1 → r1 = v → Q 1 (q_up m1 145 3 ((m1 145 3) + 1)))
    (l4 : ∀ (r1 : Int), ∀ (m1 : qm), P1 r1 m1 → q_in32 r1 → r1 ≠ v → Q 0 m1) :
    q_At yX6_skip cX6_skip 2 (some .boolean) 2 0 0 (qK (q_rb b) Q) 0 [(2, 145), (0, v)] [] (q_sh0, q_rb b, mem) := by
  refine q_aload_n dX6_skip_0 rfl rfl ?_
  refine qx_invV (ci := 6) [] [(2, 145)] rfl qM_X6_peek dX6_skip_1 tw439 rfl qs145 rfl rfl rfl rfl (l1) (fun r1 m1 p1 q1 => ?_)
  refine q_iload_n dX6_skip_4 rfl rfl ?_
  refine qx_icmp_eq (tgt := 10) dX6_skip_5 (by decide) (fun c2 => ?_) (fun c2 => ?_)
  · skip
    refine q_aload_n dX6_skip_10 rfl rfl ?_
    refine q_dup dX6_skip_11 (fun h => by cases h) ?_
    refine qx_getI (ci := 6) (k := 3) (v := (m1 145 3)) dX6_skip_12 rfl rfl rfl tw215 rfl qs145 rfl ?_
    refine qx_iconst dX6_skip_15 rfl rfl ?_
    refine qx_iadd dX6_skip_16 (o2 r1 m1 p1 q1 c2) ?_
    refine q_putI (ci := 6) (k := 3) (kI := 3) (ty := .int) dX6_skip_17 rfl (by decide) rfl tw215 rfl rfl rfl (fun _ => ⟨rfl, rfl⟩) qs145 ?_
    refine qx_iconst dX6_skip_20 rfl rfl ?_
    exact q_zret dX6_skip_21 (by decide) (qK_i (l3 r1 m1 p1 q1 c2))
  · skip
    refine qx_iconst dX6_skip_8 rfl rfl ?_
    exact q_zret dX6_skip_9 (by decide) (qK_i (l4 r1 m1 p1 q1 c2))
theorem dX6_need_0 : decode cX6_need 0 = .ok (.aload_n 0, 1) := by decide +kernel
theorem dX6_need_1 : decode cX6_need 1 = .ok (.iload_n 1, 1) := by decide +kernel
theorem dX6_need_2 : decode cX6_need 2 = .ok (.invokevirtual 42, 3) := by decide +kernel
theorem dX6_need_5 : decode cX6_need 5 = .ok (.ifCond .ne 11, 3) := by decide +kernel
theorem dX6_need_8 : decode cX6_need 8 = .ok (.aload_n 0, 1) := by decide +kernel
theorem dX6_need_9 : decode cX6_need 9 = .ok (.aload_n 0, 1) := by decide +kernel
theorem dX6_need_10 : decode cX6_need 10 = .ok (.getfield 28, 3) := by decide +kernel
theorem dX6_need_13 : decode cX6_need 13 = .ok (.invokevirtual 34, 3) := by decide +kernel
theorem dX6_need_16 : decode cX6_need 16 = .ok (.return_, 1) := by decide +kernel
theorem bkX6_need_0 {b : Int} {mem : qm} {Q : Int → qm → Prop}
    {v : Int}
    {P1 : Int → qm → Prop}
    (l1 : q_Ev yX6_skip cX6_skip 2 (some .boolean) 2 0 0 [(2, 145), (0, v)] (q_sh0, q_rb b, mem) (qK (q_rb b) (P1)))
    (l2 : ∀ (r1 : Int), ∀ (m1 : qm), P1 r1 m1 → q_in32 r1 → r1 ≠ 0 → Q 0 m1)
    {P3 : Int → qm → Int → qm → Prop}
    (l3 : ∀ (r1 : Int), ∀ (m1 : qm), P1 r1 m1 → q_in32 r1 → r1 = 0 → q_Ev yX6_failAt cX6_failAt 2 none 1 0 0 [(2, 145), (0, (m1 145 3))] (q_sh0, q_rb b, m1) (qK (q_rb b) (P3 r1 m1)))
    (l4 : ∀ (r1 : Int), ∀ (m1 : qm), P1 r1 m1 → q_in32 r1 → r1 = 0 → ∀ (r3 : Int), ∀ (m3 : qm), P3 r1 m1 r3 m3 → q_in32 r3 → Q 0 m3) :
    q_At yX6_need cX6_need 2 none 3 0 0 (qK (q_rb b) Q) 0 [(2, 145), (0, v)] [] (q_sh0, q_rb b, mem) := by
  refine q_aload_n dX6_need_0 rfl rfl ?_
  refine q_iload_n dX6_need_1 rfl rfl ?_
  refine qx_invV (ci := 6) [(0, v)] [(0, v), (2, 145)] rfl qM_X6_skip dX6_need_2 tw467 rfl qs145 rfl rfl rfl rfl (l1) (fun r1 m1 p1 q1 => ?_)
  refine qx_if_ne (tgt := 16) dX6_need_5 (by decide) (fun c2 => ?_) (fun c2 => ?_)
  · skip
    exact q_vret dX6_need_16 (qK_i (l2 r1 m1 p1 q1 c2))
  · skip
    refine q_aload_n dX6_need_8 rfl rfl ?_
    refine q_aload_n dX6_need_9 rfl rfl ?_
    refine qx_getI (ci := 6) (k := 3) (v := (m1 145 3)) dX6_need_10 rfl rfl rfl tw215 rfl qs145 rfl ?_
    refine qx_invV (ci := 6) [(0, (m1 145 3))] [(0, (m1 145 3)), (2, 145)] rfl qM_X6_failAt dX6_need_13 tw455 rfl qs145 rfl rfl rfl rfl (l3 r1 m1 p1 q1 c2) (fun r3 m3 p3 q3 => ?_)
    exact q_vret dX6_need_16 (qK_i (l4 r1 m1 p1 q1 c2 r3 m3 p3 q3))
theorem dX6_digit_0 : decode cX6_digit 0 = .ok (.aload_n 0, 1) := by decide +kernel
theorem dX6_digit_1 : decode cX6_digit 1 = .ok (.invokevirtual 38, 3) := by decide +kernel
theorem dX6_digit_4 : decode cX6_digit 4 = .ok (.istore_n 1, 1) := by decide +kernel
theorem dX6_digit_5 : decode cX6_digit 5 = .ok (.iload_n 1, 1) := by decide +kernel
theorem dX6_digit_6 : decode cX6_digit 6 = .ok (.bipush 48, 2) := by decide +kernel
theorem dX6_digit_8 : decode cX6_digit 8 = .ok (.if_icmp .lt 9, 3) := by decide +kernel
theorem dX6_digit_11 : decode cX6_digit 11 = .ok (.iload_n 1, 1) := by decide +kernel
theorem dX6_digit_12 : decode cX6_digit 12 = .ok (.bipush 57, 2) := by decide +kernel
theorem dX6_digit_14 : decode cX6_digit 14 = .ok (.if_icmp .le 13, 3) := by decide +kernel
theorem dX6_digit_17 : decode cX6_digit 17 = .ok (.aload_n 0, 1) := by decide +kernel
theorem dX6_digit_18 : decode cX6_digit 18 = .ok (.aload_n 0, 1) := by decide +kernel
theorem dX6_digit_19 : decode cX6_digit 19 = .ok (.getfield 28, 3) := by decide +kernel
theorem dX6_digit_22 : decode cX6_digit 22 = .ok (.invokevirtual 34, 3) := by decide +kernel
theorem dX6_digit_25 : decode cX6_digit 25 = .ok (.iconst 0, 1) := by decide +kernel
theorem dX6_digit_26 : decode cX6_digit 26 = .ok (.ireturn, 1) := by decide +kernel
theorem dX6_digit_27 : decode cX6_digit 27 = .ok (.aload_n 0, 1) := by decide +kernel
theorem dX6_digit_28 : decode cX6_digit 28 = .ok (.dup, 1) := by decide +kernel
theorem dX6_digit_29 : decode cX6_digit 29 = .ok (.getfield 28, 3) := by decide +kernel
theorem dX6_digit_32 : decode cX6_digit 32 = .ok (.iconst 1, 1) := by decide +kernel
theorem dX6_digit_33 : decode cX6_digit 33 = .ok (.iadd, 1) := by decide +kernel
theorem dX6_digit_34 : decode cX6_digit 34 = .ok (.putfield 28, 3) := by decide +kernel
theorem dX6_digit_37 : decode cX6_digit 37 = .ok (.iload_n 1, 1) := by decide +kernel
theorem dX6_digit_38 : decode cX6_digit 38 = .ok (.bipush 48, 2) := by decide +kernel
theorem dX6_digit_40 : decode cX6_digit 40 = .ok (.isub, 1) := by decide +kernel
theorem dX6_digit_41 : decode cX6_digit 41 = .ok (.ireturn, 1) := by decide +kernel
theorem bkX6_digit_0 {b : Int} {mem : qm} {Q : Int → qm → Prop}
    {P1 : Int → qm → Prop}
    (l1 : q_Ev yX6_peek cX6_peek 1 (some .int) 1 0 0 [(2, 145)] (q_sh0, q_rb b, mem) (qK (q_rb b) (P1)))
    {P3 : Int → qm → Int → qm → Prop}
    (l2 : ∀ (r1 : Int), ∀ (m1 : qm), P1 r1 m1 → q_in32 r1 → r1 < 48 → q_Ev yX6_failAt cX6_failAt 2 none 1 0 0 [(2, 145), (0, (m1 145 3))] (q_sh0, q_rb b, m1) (qK (q_rb b) (P3 r1 m1)))
    (l3 : ∀ (r1 : Int), ∀ (m1 : qm), P1 r1 m1 → q_in32 r1 → r1 < 48 → ∀ (r3 : Int), ∀ (m3 : qm), P3 r1 m1 r3 m3 → q_in32 r3 → Q 0 m3)
    (o4 : ∀ (r1 : Int), ∀ (m1 : qm), P1 r1 m1 → q_in32 r1 → 48 ≤ r1 → r1 ≤ 57 → q_in32 ((m1 145 3) + 1) ∧ q_in32 (r1 - 48))
    (l5 : ∀ (r1 : Int), ∀ (m1 : qm), P1 r1 m1 → q_in32 r1 → 48 ≤ r1 → r1 ≤ 57 → Q (r1 - 48) (q_up m1 145 3 ((m1 145 3) + 1)))
    {P5 : Int → qm → Int → qm → Prop}
    (l6 : ∀ (r1 : Int), ∀ (m1 : qm), P1 r1 m1 → q_in32 r1 → 48 ≤ r1 → 57 < r1 → q_Ev yX6_failAt cX6_failAt 2 none 1 0 0 [(2, 145), (0, (m1 145 3))] (q_sh0, q_rb b, m1) (qK (q_rb b) (P5 r1 m1)))
    (l7 : ∀ (r1 : Int), ∀ (m1 : qm), P1 r1 m1 → q_in32 r1 → 48 ≤ r1 → 57 < r1 → ∀ (r5 : Int), ∀ (m5 : qm), P5 r1 m1 r5 m5 → q_in32 r5 → Q 0 m5) :
    q_At yX6_digit cX6_digit 2 (some .int) 2 0 0 (qK (q_rb b) Q) 0 [(2, 145), (4, 0)] [] (q_sh0, q_rb b, mem) := by
  refine q_aload_n dX6_digit_0 rfl rfl ?_
  refine qx_invV (ci := 6) [] [(2, 145)] rfl qM_X6_peek dX6_digit_1 tw439 rfl qs145 rfl rfl rfl rfl (l1) (fun r1 m1 p1 q1 => ?_)
  refine qx_istore_n (L' := [(2, 145), (0, r1)]) dX6_digit_4 rfl rfl rfl rfl ?_
  refine q_iload_n dX6_digit_5 rfl rfl ?_
  refine qx_bipush dX6_digit_6 rfl rfl ?_
  refine qx_icmp_lt (tgt := 17) dX6_digit_8 (by decide) (fun c2 => ?_) (fun c2 => ?_)
  · skip
    refine q_aload_n dX6_digit_17 rfl rfl ?_
    refine q_aload_n dX6_digit_18 rfl rfl ?_
    refine qx_getI (ci := 6) (k := 3) (v := (m1 145 3)) dX6_digit_19 rfl rfl rfl tw215 rfl qs145 rfl ?_
    refine qx_invV (ci := 6) [(0, (m1 145 3))] [(0, (m1 145 3)), (2, 145)] rfl qM_X6_failAt dX6_digit_22 tw455 rfl qs145 rfl rfl rfl rfl (l2 r1 m1 p1 q1 c2) (fun r3 m3 p3 q3 => ?_)
    refine qx_iconst dX6_digit_25 rfl rfl ?_
    exact q_iret dX6_digit_26 (qK_i (l3 r1 m1 p1 q1 c2 r3 m3 p3 q3))
  · skip
    refine q_iload_n dX6_digit_11 rfl rfl ?_
    refine qx_bipush dX6_digit_12 rfl rfl ?_
    refine qx_icmp_le (tgt := 27) dX6_digit_14 (by decide) (fun c4 => ?_) (fun c4 => ?_)
    · skip
      refine q_aload_n dX6_digit_27 rfl rfl ?_
      refine q_dup dX6_digit_28 (fun h => by cases h) ?_
      refine qx_getI (ci := 6) (k := 3) (v := (m1 145 3)) dX6_digit_29 rfl rfl rfl tw215 rfl qs145 rfl ?_
      refine qx_iconst dX6_digit_32 rfl rfl ?_
      refine qx_iadd dX6_digit_33 (o4 r1 m1 p1 q1 c2 c4).1 ?_
      refine q_putI (ci := 6) (k := 3) (kI := 3) (ty := .int) dX6_digit_34 rfl (by decide) rfl tw215 rfl rfl rfl (fun _ => ⟨rfl, rfl⟩) qs145 ?_
      refine q_iload_n dX6_digit_37 rfl rfl ?_
      refine qx_bipush dX6_digit_38 rfl rfl ?_
      refine qx_isub dX6_digit_40 (o4 r1 m1 p1 q1 c2 c4).2 ?_
      exact q_iret dX6_digit_41 (qK_i (l5 r1 m1 p1 q1 c2 c4))
    · skip
      refine q_aload_n dX6_digit_17 rfl rfl ?_
      refine q_aload_n dX6_digit_18 rfl rfl ?_
      refine qx_getI (ci := 6) (k := 3) (v := (m1 145 3)) dX6_digit_19 rfl rfl rfl tw215 rfl qs145 rfl ?_
      refine qx_invV (ci := 6) [(0, (m1 145 3))] [(0, (m1 145 3)), (2, 145)] rfl qM_X6_failAt dX6_digit_22 tw455 rfl qs145 rfl rfl rfl rfl (l6 r1 m1 p1 q1 c2 c4) (fun r5 m5 p5 q5 => ?_)
      refine qx_iconst dX6_digit_25 rfl rfl ?_
      exact q_iret dX6_digit_26 (qK_i (l7 r1 m1 p1 q1 c2 c4 r5 m5 p5 q5))
theorem dX6_number_0 : decode cX6_number 0 = .ok (.aload_n 0, 1) := by decide +kernel
theorem dX6_number_1 : decode cX6_number 1 = .ok (.invokevirtual 46, 3) := by decide +kernel
theorem dX6_number_4 : decode cX6_number 4 = .ok (.istore_n 2, 1) := by decide +kernel
theorem dX6_number_5 : decode cX6_number 5 = .ok (.iconst 1, 1) := by decide +kernel
theorem dX6_number_6 : decode cX6_number 6 = .ok (.istore_n 3, 1) := by decide +kernel
theorem dX6_number_7 : decode cX6_number 7 = .ok (.iload_n 3, 1) := by decide +kernel
theorem dX6_number_8 : decode cX6_number 8 = .ok (.iload_n 1, 1) := by decide +kernel
theorem dX6_number_9 : decode cX6_number 9 = .ok (.if_icmp .ge 26, 3) := by decide +kernel
theorem dX6_number_12 : decode cX6_number 12 = .ok (.aload_n 0, 1) := by decide +kernel
theorem dX6_number_13 : decode cX6_number 13 = .ok (.invokevirtual 49, 3) := by decide +kernel
theorem dX6_number_16 : decode cX6_number 16 = .ok (.ifCond .eq 19, 3) := by decide +kernel
theorem dX6_number_19 : decode cX6_number 19 = .ok (.iload_n 2, 1) := by decide +kernel
theorem dX6_number_20 : decode cX6_number 20 = .ok (.bipush 10, 2) := by decide +kernel
theorem dX6_number_22 : decode cX6_number 22 = .ok (.imul, 1) := by decide +kernel
theorem dX6_number_23 : decode cX6_number 23 = .ok (.aload_n 0, 1) := by decide +kernel
theorem dX6_number_24 : decode cX6_number 24 = .ok (.invokevirtual 46, 3) := by decide +kernel
theorem dX6_number_27 : decode cX6_number 27 = .ok (.iadd, 1) := by decide +kernel
theorem dX6_number_28 : decode cX6_number 28 = .ok (.istore_n 2, 1) := by decide +kernel
theorem dX6_number_29 : decode cX6_number 29 = .ok (.iinc 3 1, 3) := by decide +kernel
theorem dX6_number_32 : decode cX6_number 32 = .ok (.goto (-25), 3) := by decide +kernel
theorem dX6_number_35 : decode cX6_number 35 = .ok (.iload_n 2, 1) := by decide +kernel
theorem dX6_number_36 : decode cX6_number 36 = .ok (.ireturn, 1) := by decide +kernel
theorem bkX6_number_0 {b : Int} {mem : qm} {Q : Int → qm → Prop}
    {v : Int}
    {P1 : Int → qm → Prop}
    (l1 : q_Ev yX6_digit cX6_digit 2 (some .int) 2 0 0 [(2, 145)] (q_sh0, q_rb b, mem) (qK (q_rb b) (P1)))
    (l2 : ∀ (r1 : Int), ∀ (m1 : qm), P1 r1 m1 → q_in32 r1 → q_At yX6_number cX6_number 4 (some .int) 3 0 0 (qK (q_rb b) Q) 7 [(2, 145), (0, v), (0, r1), (0, 1)] [] (q_sh0, q_rb b, m1)) :
    q_At yX6_number cX6_number 4 (some .int) 3 0 0 (qK (q_rb b) Q) 0 [(2, 145), (0, v), (4, 0), (4, 0)] [] (q_sh0, q_rb b, mem) := by
  refine q_aload_n dX6_number_0 rfl rfl ?_
  refine qx_invV (ci := 6) [] [(2, 145)] rfl qM_X6_digit dX6_number_1 tw472 rfl qs145 rfl rfl rfl rfl (l1) (fun r1 m1 p1 q1 => ?_)
  refine qx_istore_n (L' := [(2, 145), (0, v), (0, r1), (4, 0)]) dX6_number_4 rfl rfl rfl rfl ?_
  refine qx_iconst dX6_number_5 rfl rfl ?_
  refine qx_istore_n (L' := [(2, 145), (0, v), (0, r1), (0, 1)]) dX6_number_6 rfl rfl rfl rfl ?_
  exact l2 r1 m1 p1 q1
theorem bkX6_number_7 {b : Int} {mem : qm} {Q : Int → qm → Prop}
    {v v2 v3 : Int}
    (l1 : v ≤ v3 → Q v2 mem)
    {P2 : Int → qm → Prop}
    (l2 : v3 < v → q_Ev yX6_seesDigit cX6_seesDigit 2 (some .boolean) 2 0 0 [(2, 145)] (q_sh0, q_rb b, mem) (qK (q_rb b) (P2)))
    (l3 : v3 < v → ∀ (r2 : Int), ∀ (m2 : qm), P2 r2 m2 → q_in32 r2 → r2 = 0 → Q v2 m2)
    (o4 : v3 < v → ∀ (r2 : Int), ∀ (m2 : qm), P2 r2 m2 → q_in32 r2 → r2 ≠ 0 → q_in32 (v2 * 10))
    {P4 : Int → qm → Int → qm → Prop}
    (l5 : v3 < v → ∀ (r2 : Int), ∀ (m2 : qm), P2 r2 m2 → q_in32 r2 → r2 ≠ 0 → q_Ev yX6_digit cX6_digit 2 (some .int) 2 0 0 [(2, 145)] (q_sh0, q_rb b, m2) (qK (q_rb b) (P4 r2 m2)))
    (o6 : v3 < v → ∀ (r2 : Int), ∀ (m2 : qm), P2 r2 m2 → q_in32 r2 → r2 ≠ 0 → ∀ (r4 : Int), ∀ (m4 : qm), P4 r2 m2 r4 m4 → q_in32 r4 → q_in32 ((v2 * 10) + r4) ∧ q_in32 (v3 + 1))
    (l7 : v3 < v → ∀ (r2 : Int), ∀ (m2 : qm), P2 r2 m2 → q_in32 r2 → r2 ≠ 0 → ∀ (r4 : Int), ∀ (m4 : qm), P4 r2 m2 r4 m4 → q_in32 r4 → q_At yX6_number cX6_number 4 (some .int) 3 0 0 (qK (q_rb b) Q) 7 [(2, 145), (0, v), (0, ((v2 * 10) + r4)), (0, (v3 + 1))] [] (q_sh0, q_rb b, m4)) :
    q_At yX6_number cX6_number 4 (some .int) 3 0 0 (qK (q_rb b) Q) 7 [(2, 145), (0, v), (0, v2), (0, v3)] [] (q_sh0, q_rb b, mem) := by
  refine q_iload_n dX6_number_7 rfl rfl ?_
  refine q_iload_n dX6_number_8 rfl rfl ?_
  refine qx_icmp_ge (tgt := 35) dX6_number_9 (by decide) (fun c1 => ?_) (fun c1 => ?_)
  · skip
    refine q_iload_n dX6_number_35 rfl rfl ?_
    exact q_iret dX6_number_36 (qK_i (l1 c1))
  · skip
    refine q_aload_n dX6_number_12 rfl rfl ?_
    refine qx_invV (ci := 6) [] [(2, 145)] rfl qM_X6_seesDigit dX6_number_13 tw473 rfl qs145 rfl rfl rfl rfl (l2 c1) (fun r2 m2 p2 q2 => ?_)
    refine qx_if_eq (tgt := 35) dX6_number_16 (by decide) (fun c3 => ?_) (fun c3 => ?_)
    · skip
      refine q_iload_n dX6_number_35 rfl rfl ?_
      exact q_iret dX6_number_36 (qK_i (l3 c1 r2 m2 p2 q2 c3))
    · skip
      refine q_iload_n dX6_number_19 rfl rfl ?_
      refine qx_bipush dX6_number_20 rfl rfl ?_
      refine qx_imul dX6_number_22 (o4 c1 r2 m2 p2 q2 c3) ?_
      refine q_aload_n dX6_number_23 rfl rfl ?_
      refine qx_invV (ci := 6) [] [(2, 145), (0, (v2 * 10))] rfl qM_X6_digit dX6_number_24 tw472 rfl qs145 rfl rfl rfl rfl (l5 c1 r2 m2 p2 q2 c3) (fun r4 m4 p4 q4 => ?_)
      refine qx_iadd dX6_number_27 (o6 c1 r2 m2 p2 q2 c3 r4 m4 p4 q4).1 ?_
      refine qx_istore_n (L' := [(2, 145), (0, v), (0, ((v2 * 10) + r4)), (0, v3)]) dX6_number_28 rfl rfl rfl rfl ?_
      refine qx_iinc (L' := [(2, 145), (0, v), (0, ((v2 * 10) + r4)), (0, (v3 + 1))]) dX6_number_29 rfl rfl rfl (o6 c1 r2 m2 p2 q2 c3 r4 m4 p4 q4).2 rfl ?_
      refine q_goto (tgt := 7) dX6_number_32 (by decide) ?_
      exact l7 c1 r2 m2 p2 q2 c3 r4 m4 p4 q4
theorem dX12_here_0 : decode cX12_here 0 = .ok (.aload_n 0, 1) := by decide +kernel
theorem dX12_here_1 : decode cX12_here 1 = .ok (.getfield 157, 3) := by decide +kernel
theorem dX12_here_4 : decode cX12_here 4 = .ok (.aload_n 0, 1) := by decide +kernel
theorem dX12_here_5 : decode cX12_here 5 = .ok (.getfield 151, 3) := by decide +kernel
theorem dX12_here_8 : decode cX12_here 8 = .ok (.if_icmp .ge 26, 3) := by decide +kernel
theorem dX12_here_11 : decode cX12_here 11 = .ok (.aload_n 0, 1) := by decide +kernel
theorem dX12_here_12 : decode cX12_here 12 = .ok (.getfield 157, 3) := by decide +kernel
theorem dX12_here_15 : decode cX12_here 15 = .ok (.aload_n 0, 1) := by decide +kernel
theorem dX12_here_16 : decode cX12_here 16 = .ok (.getfield 154, 3) := by decide +kernel
theorem dX12_here_19 : decode cX12_here 19 = .ok (.if_icmp .ge 15, 3) := by decide +kernel
theorem dX12_here_22 : decode cX12_here 22 = .ok (.aload_n 0, 1) := by decide +kernel
theorem dX12_here_23 : decode cX12_here 23 = .ok (.getfield 148, 3) := by decide +kernel
theorem dX12_here_26 : decode cX12_here 26 = .ok (.aload_n 0, 1) := by decide +kernel
theorem dX12_here_27 : decode cX12_here 27 = .ok (.getfield 157, 3) := by decide +kernel
theorem dX12_here_30 : decode cX12_here 30 = .ok (.baload, 1) := by decide +kernel
theorem dX12_here_31 : decode cX12_here 31 = .ok (.goto 4, 3) := by decide +kernel
theorem dX12_here_34 : decode cX12_here 34 = .ok (.iconst (-1), 1) := by decide +kernel
theorem dX12_here_35 : decode cX12_here 35 = .ok (.ireturn, 1) := by decide +kernel
theorem bkX12_here_0 {b : Int} {mem : qm} {Q : Int → qm → Prop}
    {N : Nat}
    (hb : q_sh0[b.toNat]? = some (2, N))
    (hb0 : 0 ≤ b)
    (l1 : (mem 188 19) ≤ (mem 188 21) → Q (-1) mem)
    (l2 : (mem 188 21) < (mem 188 19) → (mem 188 20) ≤ (mem 188 21) → Q (-1) mem)
    (o3 : (mem 188 21) < (mem 188 19) → (mem 188 21) < (mem 188 20) → (0 ≤ (mem 188 21) ∧ (mem 188 21) < N))
    (l4 : (mem 188 21) < (mem 188 19) → (mem 188 21) < (mem 188 20) → Q (mem b (mem 188 21)) mem) :
    q_At yX12_here cX12_here 1 (some .int) 1 0 0 (qK (q_rb b) Q) 0 [(2, 188)] [] (q_sh0, q_rb b, mem) := by
  refine q_aload_n dX12_here_0 rfl rfl ?_
  refine qx_getI (ci := 12) (k := 21) (v := (mem 188 21)) dX12_here_1 rfl rfl rfl tw1204 rfl qs188 rfl ?_
  refine q_aload_n dX12_here_4 rfl rfl ?_
  refine qx_getI (ci := 12) (k := 19) (v := (mem 188 19)) dX12_here_5 rfl rfl rfl tw1202 rfl qs188 rfl ?_
  refine qx_icmp_ge (tgt := 34) dX12_here_8 (by decide) (fun c1 => ?_) (fun c1 => ?_)
  · skip
    refine qx_iconst dX12_here_34 rfl rfl ?_
    exact q_iret dX12_here_35 (qK_i (l1 c1))
  · skip
    refine q_aload_n dX12_here_11 rfl rfl ?_
    refine qx_getI (ci := 12) (k := 21) (v := (mem 188 21)) dX12_here_12 rfl rfl rfl tw1204 rfl qs188 rfl ?_
    refine q_aload_n dX12_here_15 rfl rfl ?_
    refine qx_getI (ci := 12) (k := 20) (v := (mem 188 20)) dX12_here_16 rfl rfl rfl tw1203 rfl qs188 rfl ?_
    refine qx_icmp_ge (tgt := 34) dX12_here_19 (by decide) (fun c2 => ?_) (fun c2 => ?_)
    · skip
      refine qx_iconst dX12_here_34 rfl rfl ?_
      exact q_iret dX12_here_35 (qK_i (l2 c1 c2))
    · skip
      refine q_aload_n dX12_here_22 rfl rfl ?_
      refine q_getR (ci := 12) (k := 18) dX12_here_23 rfl (by decide) rfl tw1201 (by decide) qs188 qw188_18 hb0 ?_
      refine q_aload_n dX12_here_26 rfl rfl ?_
      refine qx_getI (ci := 12) (k := 21) (v := (mem 188 21)) dX12_here_27 rfl rfl rfl tw1204 rfl qs188 rfl ?_
      refine qx_bald (v := (mem b (mem 188 21))) dX12_here_30 hb (o3 c1 c2) rfl ?_
      refine q_goto (tgt := 35) dX12_here_31 (by decide) ?_
      exact q_iret dX12_here_35 (qK_i (l4 c1 c2))
theorem dX12_fault_0 : decode cX12_fault 0 = .ok (.aload_n 0, 1) := by decide +kernel
theorem dX12_fault_1 : decode cX12_fault 1 = .ok (.invokevirtual 163, 3) := by decide +kernel
theorem dX12_fault_4 : decode cX12_fault 4 = .ok (.ifCond .eq 8, 3) := by decide +kernel
theorem dX12_fault_7 : decode cX12_fault 7 = .ok (.aload_n 0, 1) := by decide +kernel
theorem dX12_fault_8 : decode cX12_fault 8 = .ok (.iload_n 1, 1) := by decide +kernel
theorem dX12_fault_9 : decode cX12_fault 9 = .ok (.putfield 160, 3) := by decide +kernel
theorem dX12_fault_12 : decode cX12_fault 12 = .ok (.return_, 1) := by decide +kernel
theorem bkX12_fault_0 {b : Int} {mem : qm} {Q : Int → qm → Prop}
    {v : Int}
    (l1 : ((mem 188 22) = -1) → Q 0 (q_up mem 188 22 v))
    (l2 : ¬ ((mem 188 22) = -1) → Q 0 mem) :
    q_At yX12_fault cX12_fault 2 none 2 0 0 (qK (q_rb b) Q) 0 [(2, 188), (0, v)] [] (q_sh0, q_rb b, mem) := by
  refine q_aload_n dX12_fault_0 rfl rfl ?_
  refine qx_invV (ci := 12) [] [(2, 188)] rfl qM_X12_fine dX12_fault_1 tw1373 rfl qs188 rfl rfl rfl rfl (spX12_fine) (fun r1 m1 p1 q1 => ?_)
  obtain ⟨p1e, ⟨p1f, p1⟩ | ⟨p1f, p1⟩⟩ := p1
  · rw [p1e, p1f]
    refine qx_if_eq (tgt := 12) dX12_fault_4 (by decide) (fun z => absurd z (by decide)) (fun _ => ?_)
    refine q_aload_n dX12_fault_7 rfl rfl ?_
    refine q_iload_n dX12_fault_8 rfl rfl ?_
    refine q_putI (ci := 12) (k := 22) (kI := 22) (ty := .int) dX12_fault_9 rfl (by decide) rfl tw1205 rfl rfl rfl (fun _ => ⟨rfl, rfl⟩) qs188 ?_
    exact q_vret dX12_fault_12 (qK_i (l1 p1))
  · rw [p1e, p1f]
    refine qx_if_eq (tgt := 12) dX12_fault_4 (by decide) (fun _ => ?_) (fun z => absurd z (by decide))
    exact q_vret dX12_fault_12 (qK_i (l2 p1))
theorem dX12_passes_0 : decode cX12_passes 0 = .ok (.aload_n 0, 1) := by decide +kernel
theorem dX12_passes_1 : decode cX12_passes 1 = .ok (.invokevirtual 163, 3) := by decide +kernel
theorem dX12_passes_4 : decode cX12_passes 4 = .ok (.ifCond .eq 11, 3) := by decide +kernel
theorem dX12_passes_7 : decode cX12_passes 7 = .ok (.aload_n 0, 1) := by decide +kernel
theorem dX12_passes_8 : decode cX12_passes 8 = .ok (.invokevirtual 167, 3) := by decide +kernel
theorem dX12_passes_11 : decode cX12_passes 11 = .ok (.iload_n 1, 1) := by decide +kernel
theorem dX12_passes_12 : decode cX12_passes 12 = .ok (.if_icmp .eq 5, 3) := by decide +kernel
theorem dX12_passes_15 : decode cX12_passes 15 = .ok (.iconst 0, 1) := by decide +kernel
theorem dX12_passes_16 : decode cX12_passes 16 = .ok (.ireturn, 1) := by decide +kernel
theorem dX12_passes_17 : decode cX12_passes 17 = .ok (.aload_n 0, 1) := by decide +kernel
theorem dX12_passes_18 : decode cX12_passes 18 = .ok (.dup, 1) := by decide +kernel
theorem dX12_passes_19 : decode cX12_passes 19 = .ok (.getfield 157, 3) := by decide +kernel
theorem dX12_passes_22 : decode cX12_passes 22 = .ok (.iconst 1, 1) := by decide +kernel
theorem dX12_passes_23 : decode cX12_passes 23 = .ok (.iadd, 1) := by decide +kernel
theorem dX12_passes_24 : decode cX12_passes 24 = .ok (.putfield 157, 3) := by decide +kernel
theorem dX12_passes_27 : decode cX12_passes 27 = .ok (.iconst 1, 1) := by decide +kernel
theorem dX12_passes_28 : decode cX12_passes 28 = .ok (.ireturn, 1) := by decide +kernel
theorem bkX12_passes_0 {b : Int} {mem : qm} {Q : Int → qm → Prop}
    {v : Int}
    {P2 : Int → qm → Prop}
    (l1 : ((mem 188 22) = -1) → q_Ev yX12_here cX12_here 1 (some .int) 1 0 0 [(2, 188)] (q_sh0, q_rb b, mem) (qK (q_rb b) (P2)))
    (o2 : ((mem 188 22) = -1) → ∀ (r2 : Int), ∀ (m2 : qm), P2 r2 m2 → q_in32 r2 → r2 = v → q_in32 ((m2 188 21) + 1))
    (l3 : ((mem 188 22) = -1) → ∀ (r2 : Int), ∀ (m2 : qm), P2 r2 m2 → q_in32 r2 → r2 = v → Q 1 (q_up m2 188 21 ((m2 188 21) + 1)))
    (l4 : ((mem 188 22) = -1) → ∀ (r2 : Int), ∀ (m2 : qm), P2 r2 m2 → q_in32 r2 → r2 ≠ v → Q 0 m2)
    (l5 : ¬ ((mem 188 22) = -1) → Q 0 mem) :
    q_At yX12_passes cX12_passes 2 (some .boolean) 2 0 0 (qK (q_rb b) Q) 0 [(2, 188), (0, v)] [] (q_sh0, q_rb b, mem) := by
  refine q_aload_n dX12_passes_0 rfl rfl ?_
  refine qx_invV (ci := 12) [] [(2, 188)] rfl qM_X12_fine dX12_passes_1 tw1373 rfl qs188 rfl rfl rfl rfl (spX12_fine) (fun r1 m1 p1 q1 => ?_)
  obtain ⟨p1e, ⟨p1f, p1⟩ | ⟨p1f, p1⟩⟩ := p1
  · rw [p1e, p1f]
    refine qx_if_eq (tgt := 15) dX12_passes_4 (by decide) (fun z => absurd z (by decide)) (fun _ => ?_)
    refine q_aload_n dX12_passes_7 rfl rfl ?_
    refine qx_invV (ci := 12) [] [(2, 188)] rfl qM_X12_here dX12_passes_8 tw1381 rfl qs188 rfl rfl rfl rfl (l1 p1) (fun r2 m2 p2 q2 => ?_)
    refine q_iload_n dX12_passes_11 rfl rfl ?_
    refine qx_icmp_eq (tgt := 17) dX12_passes_12 (by decide) (fun c3 => ?_) (fun c3 => ?_)
    · skip
      refine q_aload_n dX12_passes_17 rfl rfl ?_
      refine q_dup dX12_passes_18 (fun h => by cases h) ?_
      refine qx_getI (ci := 12) (k := 21) (v := (m2 188 21)) dX12_passes_19 rfl rfl rfl tw1204 rfl qs188 rfl ?_
      refine qx_iconst dX12_passes_22 rfl rfl ?_
      refine qx_iadd dX12_passes_23 (o2 p1 r2 m2 p2 q2 c3) ?_
      refine q_putI (ci := 12) (k := 21) (kI := 21) (ty := .int) dX12_passes_24 rfl (by decide) rfl tw1204 rfl rfl rfl (fun _ => ⟨rfl, rfl⟩) qs188 ?_
      refine qx_iconst dX12_passes_27 rfl rfl ?_
      exact q_zret dX12_passes_28 (by decide) (qK_i (l3 p1 r2 m2 p2 q2 c3))
    · skip
      refine qx_iconst dX12_passes_15 rfl rfl ?_
      exact q_zret dX12_passes_16 (by decide) (qK_i (l4 p1 r2 m2 p2 q2 c3))
  · rw [p1e, p1f]
    refine qx_if_eq (tgt := 15) dX12_passes_4 (by decide) (fun _ => ?_) (fun z => absurd z (by decide))
    refine qx_iconst dX12_passes_15 rfl rfl ?_
    exact q_zret dX12_passes_16 (by decide) (qK_i (l5 p1))
theorem dX12_need_0 : decode cX12_need 0 = .ok (.aload_n 0, 1) := by decide +kernel
theorem dX12_need_1 : decode cX12_need 1 = .ok (.iload_n 1, 1) := by decide +kernel
theorem dX12_need_2 : decode cX12_need 2 = .ok (.invokevirtual 171, 3) := by decide +kernel
theorem dX12_need_5 : decode cX12_need 5 = .ok (.ifCond .ne 11, 3) := by decide +kernel
theorem dX12_need_8 : decode cX12_need 8 = .ok (.aload_n 0, 1) := by decide +kernel
theorem dX12_need_9 : decode cX12_need 9 = .ok (.aload_n 0, 1) := by decide +kernel
theorem dX12_need_10 : decode cX12_need 10 = .ok (.getfield 157, 3) := by decide +kernel
theorem dX12_need_13 : decode cX12_need 13 = .ok (.invokevirtual 175, 3) := by decide +kernel
theorem dX12_need_16 : decode cX12_need 16 = .ok (.return_, 1) := by decide +kernel
theorem bkX12_need_0 {b : Int} {mem : qm} {Q : Int → qm → Prop}
    {v : Int}
    {P1 : Int → qm → Prop}
    (l1 : q_Ev yX12_passes cX12_passes 2 (some .boolean) 2 0 0 [(2, 188), (0, v)] (q_sh0, q_rb b, mem) (qK (q_rb b) (P1)))
    (l2 : ∀ (r1 : Int), ∀ (m1 : qm), P1 r1 m1 → q_in32 r1 → r1 ≠ 0 → Q 0 m1)
    {P3 : Int → qm → Int → qm → Prop}
    (l3 : ∀ (r1 : Int), ∀ (m1 : qm), P1 r1 m1 → q_in32 r1 → r1 = 0 → q_Ev yX12_fault cX12_fault 2 none 2 0 0 [(2, 188), (0, (m1 188 21))] (q_sh0, q_rb b, m1) (qK (q_rb b) (P3 r1 m1)))
    (l4 : ∀ (r1 : Int), ∀ (m1 : qm), P1 r1 m1 → q_in32 r1 → r1 = 0 → ∀ (r3 : Int), ∀ (m3 : qm), P3 r1 m1 r3 m3 → q_in32 r3 → Q 0 m3) :
    q_At yX12_need cX12_need 2 none 3 0 0 (qK (q_rb b) Q) 0 [(2, 188), (0, v)] [] (q_sh0, q_rb b, mem) := by
  refine q_aload_n dX12_need_0 rfl rfl ?_
  refine q_iload_n dX12_need_1 rfl rfl ?_
  refine qx_invV (ci := 12) [(0, v)] [(0, v), (2, 188)] rfl qM_X12_passes dX12_need_2 tw1377 rfl qs188 rfl rfl rfl rfl (l1) (fun r1 m1 p1 q1 => ?_)
  refine qx_if_ne (tgt := 16) dX12_need_5 (by decide) (fun c2 => ?_) (fun c2 => ?_)
  · skip
    exact q_vret dX12_need_16 (qK_i (l2 r1 m1 p1 q1 c2))
  · skip
    refine q_aload_n dX12_need_8 rfl rfl ?_
    refine q_aload_n dX12_need_9 rfl rfl ?_
    refine qx_getI (ci := 12) (k := 21) (v := (m1 188 21)) dX12_need_10 rfl rfl rfl tw1204 rfl qs188 rfl ?_
    refine qx_invV (ci := 12) [(0, (m1 188 21))] [(0, (m1 188 21)), (2, 188)] rfl qM_X12_fault dX12_need_13 tw1389 rfl qs188 rfl rfl rfl rfl (l3 r1 m1 p1 q1 c2) (fun r3 m3 p3 q3 => ?_)
    exact q_vret dX12_need_16 (qK_i (l4 r1 m1 p1 q1 c2 r3 m3 p3 q3))
theorem dX12_number_0 : decode cX12_number 0 = .ok (.aload_n 0, 1) := by decide +kernel
theorem dX12_number_1 : decode cX12_number 1 = .ok (.invokevirtual 163, 3) := by decide +kernel
theorem dX12_number_4 : decode cX12_number 4 = .ok (.ifCond .ne 5, 3) := by decide +kernel
theorem dX12_number_7 : decode cX12_number 7 = .ok (.iconst 0, 1) := by decide +kernel
theorem dX12_number_8 : decode cX12_number 8 = .ok (.ireturn, 1) := by decide +kernel
theorem dX12_number_9 : decode cX12_number 9 = .ok (.aload_n 0, 1) := by decide +kernel
theorem dX12_number_10 : decode cX12_number 10 = .ok (.getfield 157, 3) := by decide +kernel
theorem dX12_number_13 : decode cX12_number 13 = .ok (.istore 4, 2) := by decide +kernel
theorem dX12_number_15 : decode cX12_number 15 = .ok (.iconst 0, 1) := by decide +kernel
theorem dX12_number_16 : decode cX12_number 16 = .ok (.istore 5, 2) := by decide +kernel
theorem dX12_number_18 : decode cX12_number 18 = .ok (.aload_n 0, 1) := by decide +kernel
theorem dX12_number_19 : decode cX12_number 19 = .ok (.getfield 157, 3) := by decide +kernel
theorem dX12_number_22 : decode cX12_number 22 = .ok (.iload 4, 2) := by decide +kernel
theorem dX12_number_24 : decode cX12_number 24 = .ok (.iload_n 1, 1) := by decide +kernel
theorem dX12_number_25 : decode cX12_number 25 = .ok (.iadd, 1) := by decide +kernel
theorem dX12_number_26 : decode cX12_number 26 = .ok (.if_icmp .ge 45, 3) := by decide +kernel
theorem dX12_number_29 : decode cX12_number 29 = .ok (.aload_n 0, 1) := by decide +kernel
theorem dX12_number_30 : decode cX12_number 30 = .ok (.invokevirtual 167, 3) := by decide +kernel
theorem dX12_number_33 : decode cX12_number 33 = .ok (.bipush 48, 2) := by decide +kernel
theorem dX12_number_35 : decode cX12_number 35 = .ok (.bipush 57, 2) := by decide +kernel
theorem dX12_number_37 : decode cX12_number 37 = .ok (.invokestatic 137, 3) := by decide +kernel
theorem dX12_number_40 : decode cX12_number 40 = .ok (.ifCond .eq 31, 3) := by decide +kernel
theorem dX12_number_43 : decode cX12_number 43 = .ok (.bipush 10, 2) := by decide +kernel
theorem dX12_number_45 : decode cX12_number 45 = .ok (.iload 5, 2) := by decide +kernel
theorem dX12_number_47 : decode cX12_number 47 = .ok (.imul, 1) := by decide +kernel
theorem dX12_number_48 : decode cX12_number 48 = .ok (.aload_n 0, 1) := by decide +kernel
theorem dX12_number_49 : decode cX12_number 49 = .ok (.invokevirtual 167, 3) := by decide +kernel
theorem dX12_number_52 : decode cX12_number 52 = .ok (.iadd, 1) := by decide +kernel
theorem dX12_number_53 : decode cX12_number 53 = .ok (.bipush 48, 2) := by decide +kernel
theorem dX12_number_55 : decode cX12_number 55 = .ok (.isub, 1) := by decide +kernel
theorem dX12_number_56 : decode cX12_number 56 = .ok (.istore 5, 2) := by decide +kernel
theorem dX12_number_58 : decode cX12_number 58 = .ok (.aload_n 0, 1) := by decide +kernel
theorem dX12_number_59 : decode cX12_number 59 = .ok (.dup, 1) := by decide +kernel
theorem dX12_number_60 : decode cX12_number 60 = .ok (.getfield 157, 3) := by decide +kernel
theorem dX12_number_63 : decode cX12_number 63 = .ok (.iconst 1, 1) := by decide +kernel
theorem dX12_number_64 : decode cX12_number 64 = .ok (.iadd, 1) := by decide +kernel
theorem dX12_number_65 : decode cX12_number 65 = .ok (.putfield 157, 3) := by decide +kernel
theorem dX12_number_68 : decode cX12_number 68 = .ok (.goto (-50), 3) := by decide +kernel
theorem dX12_number_71 : decode cX12_number 71 = .ok (.aload_n 0, 1) := by decide +kernel
theorem dX12_number_72 : decode cX12_number 72 = .ok (.getfield 157, 3) := by decide +kernel
theorem dX12_number_75 : decode cX12_number 75 = .ok (.iload 4, 2) := by decide +kernel
theorem dX12_number_77 : decode cX12_number 77 = .ok (.if_icmp .ne 14, 3) := by decide +kernel
theorem dX12_number_80 : decode cX12_number 80 = .ok (.aload_n 0, 1) := by decide +kernel
theorem dX12_number_81 : decode cX12_number 81 = .ok (.aload_n 0, 1) := by decide +kernel
theorem dX12_number_82 : decode cX12_number 82 = .ok (.getfield 157, 3) := by decide +kernel
theorem dX12_number_85 : decode cX12_number 85 = .ok (.invokevirtual 175, 3) := by decide +kernel
theorem dX12_number_88 : decode cX12_number 88 = .ok (.goto 23, 3) := by decide +kernel
theorem dX12_number_91 : decode cX12_number 91 = .ok (.iload 5, 2) := by decide +kernel
theorem dX12_number_93 : decode cX12_number 93 = .ok (.iload_n 2, 1) := by decide +kernel
theorem dX12_number_94 : decode cX12_number 94 = .ok (.iload_n 3, 1) := by decide +kernel
theorem dX12_number_95 : decode cX12_number 95 = .ok (.invokestatic 137, 3) := by decide +kernel
theorem dX12_number_98 : decode cX12_number 98 = .ok (.ifCond .ne 13, 3) := by decide +kernel
theorem dX12_number_101 : decode cX12_number 101 = .ok (.aload_n 0, 1) := by decide +kernel
theorem dX12_number_102 : decode cX12_number 102 = .ok (.aload_n 0, 1) := by decide +kernel
theorem dX12_number_103 : decode cX12_number 103 = .ok (.getfield 157, 3) := by decide +kernel
theorem dX12_number_106 : decode cX12_number 106 = .ok (.iconst 1, 1) := by decide +kernel
theorem dX12_number_107 : decode cX12_number 107 = .ok (.isub, 1) := by decide +kernel
theorem dX12_number_108 : decode cX12_number 108 = .ok (.invokevirtual 175, 3) := by decide +kernel
theorem dX12_number_111 : decode cX12_number 111 = .ok (.aload_n 0, 1) := by decide +kernel
theorem dX12_number_112 : decode cX12_number 112 = .ok (.invokevirtual 163, 3) := by decide +kernel
theorem dX12_number_115 : decode cX12_number 115 = .ok (.ifCond .eq 8, 3) := by decide +kernel
theorem dX12_number_118 : decode cX12_number 118 = .ok (.iload 5, 2) := by decide +kernel
theorem dX12_number_120 : decode cX12_number 120 = .ok (.goto 4, 3) := by decide +kernel
theorem dX12_number_123 : decode cX12_number 123 = .ok (.iconst 0, 1) := by decide +kernel
theorem dX12_number_124 : decode cX12_number 124 = .ok (.ireturn, 1) := by decide +kernel
theorem bkX12_number_0 {b : Int} {mem : qm} {Q : Int → qm → Prop}
    {k lo hi : Int}
    (l1 : ((mem 188 22) = -1) → q_At yX12_number cX12_number 6 (some .int) 3 0 0 (qK (q_rb b) Q) 18 [(2, 188), (0, k), (0, lo), (0, hi), (0, (mem 188 21)), (0, 0)] [] (q_sh0, q_rb b, mem))
    (l2 : ¬ ((mem 188 22) = -1) → Q 0 mem) :
    q_At yX12_number cX12_number 6 (some .int) 3 0 0 (qK (q_rb b) Q) 0 [(2, 188), (0, k), (0, lo), (0, hi), (4, 0), (4, 0)] [] (q_sh0, q_rb b, mem) := by
  refine q_aload_n dX12_number_0 rfl rfl ?_
  refine qx_invV (ci := 12) [] [(2, 188)] rfl qM_X12_fine dX12_number_1 tw1373 rfl qs188 rfl rfl rfl rfl (spX12_fine) (fun r1 m1 p1 q1 => ?_)
  obtain ⟨p1e, ⟨p1f, p1⟩ | ⟨p1f, p1⟩⟩ := p1
  · rw [p1e, p1f]
    refine qx_if_ne (tgt := 9) dX12_number_4 (by decide) (fun _ => ?_) (fun z => absurd z (by decide))
    refine q_aload_n dX12_number_9 rfl rfl ?_
    refine qx_getI (ci := 12) (k := 21) (v := (mem 188 21)) dX12_number_10 rfl rfl rfl tw1204 rfl qs188 rfl ?_
    refine qx_istore (L' := [(2, 188), (0, k), (0, lo), (0, hi), (0, (mem 188 21)), (4, 0)]) dX12_number_13 rfl rfl rfl ?_
    refine qx_iconst dX12_number_15 rfl rfl ?_
    refine qx_istore (L' := [(2, 188), (0, k), (0, lo), (0, hi), (0, (mem 188 21)), (0, 0)]) dX12_number_16 rfl rfl rfl ?_
    exact l1 p1
  · rw [p1e, p1f]
    refine qx_if_ne (tgt := 9) dX12_number_4 (by decide) (fun z => absurd z (by decide)) (fun _ => ?_)
    refine qx_iconst dX12_number_7 rfl rfl ?_
    exact q_iret dX12_number_8 (qK_i (l2 p1))
theorem bkX12_number_18 {b : Int} {mem : qm} {Q : Int → qm → Prop}
    {k lo hi v4 v5 : Int}
    (o1 : q_in32 (v4 + k))
    (l2 : (v4 + k) ≤ (mem 188 21) → (mem 188 21) ≠ v4 → (lo ≤ v5 ∧ v5 ≤ hi) → ((mem 188 22) = -1) → Q v5 mem)
    (l3 : (v4 + k) ≤ (mem 188 21) → (mem 188 21) ≠ v4 → (lo ≤ v5 ∧ v5 ≤ hi) → ¬ ((mem 188 22) = -1) → Q 0 mem)
    (o4 : (v4 + k) ≤ (mem 188 21) → (mem 188 21) ≠ v4 → ¬ (lo ≤ v5 ∧ v5 ≤ hi) → q_in32 ((mem 188 21) - 1))
    {P5 : Int → qm → Prop}
    (l5 : (v4 + k) ≤ (mem 188 21) → (mem 188 21) ≠ v4 → ¬ (lo ≤ v5 ∧ v5 ≤ hi) → q_Ev yX12_fault cX12_fault 2 none 2 0 0 [(2, 188), (0, ((mem 188 21) - 1))] (q_sh0, q_rb b, mem) (qK (q_rb b) (P5)))
    (l6 : (v4 + k) ≤ (mem 188 21) → (mem 188 21) ≠ v4 → ¬ (lo ≤ v5 ∧ v5 ≤ hi) → ∀ (r5 : Int), ∀ (m5 : qm), P5 r5 m5 → q_in32 r5 → ((m5 188 22) = -1) → Q v5 m5)
    (l7 : (v4 + k) ≤ (mem 188 21) → (mem 188 21) ≠ v4 → ¬ (lo ≤ v5 ∧ v5 ≤ hi) → ∀ (r5 : Int), ∀ (m5 : qm), P5 r5 m5 → q_in32 r5 → ¬ ((m5 188 22) = -1) → Q 0 m5)
    {P7 : Int → qm → Prop}
    (l8 : (v4 + k) ≤ (mem 188 21) → (mem 188 21) = v4 → q_Ev yX12_fault cX12_fault 2 none 2 0 0 [(2, 188), (0, (mem 188 21))] (q_sh0, q_rb b, mem) (qK (q_rb b) (P7)))
    (l9 : (v4 + k) ≤ (mem 188 21) → (mem 188 21) = v4 → ∀ (r7 : Int), ∀ (m7 : qm), P7 r7 m7 → q_in32 r7 → ((m7 188 22) = -1) → Q v5 m7)
    (l10 : (v4 + k) ≤ (mem 188 21) → (mem 188 21) = v4 → ∀ (r7 : Int), ∀ (m7 : qm), P7 r7 m7 → q_in32 r7 → ¬ ((m7 188 22) = -1) → Q 0 m7)
    {P9 : Int → qm → Prop}
    (l11 : (mem 188 21) < (v4 + k) → q_Ev yX12_here cX12_here 1 (some .int) 1 0 0 [(2, 188)] (q_sh0, q_rb b, mem) (qK (q_rb b) (P9)))
    (o12 : (mem 188 21) < (v4 + k) → ∀ (r9 : Int), ∀ (m9 : qm), P9 r9 m9 → q_in32 r9 → (48 ≤ r9 ∧ r9 ≤ 57) → q_in32 (10 * v5))
    {P11 : Int → qm → Int → qm → Prop}
    (l13 : (mem 188 21) < (v4 + k) → ∀ (r9 : Int), ∀ (m9 : qm), P9 r9 m9 → q_in32 r9 → (48 ≤ r9 ∧ r9 ≤ 57) → q_Ev yX12_here cX12_here 1 (some .int) 1 0 0 [(2, 188)] (q_sh0, q_rb b, m9) (qK (q_rb b) (P11 r9 m9)))
    (o14 : (mem 188 21) < (v4 + k) → ∀ (r9 : Int), ∀ (m9 : qm), P9 r9 m9 → q_in32 r9 → (48 ≤ r9 ∧ r9 ≤ 57) → ∀ (r11 : Int), ∀ (m11 : qm), P11 r9 m9 r11 m11 → q_in32 r11 → q_in32 ((10 * v5) + r11) ∧ q_in32 (((10 * v5) + r11) - 48) ∧ q_in32 ((m11 188 21) + 1))
    (l15 : (mem 188 21) < (v4 + k) → ∀ (r9 : Int), ∀ (m9 : qm), P9 r9 m9 → q_in32 r9 → (48 ≤ r9 ∧ r9 ≤ 57) → ∀ (r11 : Int), ∀ (m11 : qm), P11 r9 m9 r11 m11 → q_in32 r11 → q_At yX12_number cX12_number 6 (some .int) 3 0 0 (qK (q_rb b) Q) 18 [(2, 188), (0, k), (0, lo), (0, hi), (0, v4), (0, (((10 * v5) + r11) - 48))] [] (q_sh0, q_rb b, (q_up m11 188 21 ((m11 188 21) + 1))))
    (l16 : (mem 188 21) < (v4 + k) → ∀ (r9 : Int), ∀ (m9 : qm), P9 r9 m9 → q_in32 r9 → ¬ (48 ≤ r9 ∧ r9 ≤ 57) → (m9 188 21) ≠ v4 → (lo ≤ v5 ∧ v5 ≤ hi) → ((m9 188 22) = -1) → Q v5 m9)
    (l17 : (mem 188 21) < (v4 + k) → ∀ (r9 : Int), ∀ (m9 : qm), P9 r9 m9 → q_in32 r9 → ¬ (48 ≤ r9 ∧ r9 ≤ 57) → (m9 188 21) ≠ v4 → (lo ≤ v5 ∧ v5 ≤ hi) → ¬ ((m9 188 22) = -1) → Q 0 m9)
    (o18 : (mem 188 21) < (v4 + k) → ∀ (r9 : Int), ∀ (m9 : qm), P9 r9 m9 → q_in32 r9 → ¬ (48 ≤ r9 ∧ r9 ≤ 57) → (m9 188 21) ≠ v4 → ¬ (lo ≤ v5 ∧ v5 ≤ hi) → q_in32 ((m9 188 21) - 1))
    {P15 : Int → qm → Int → qm → Prop}
    (l19 : (mem 188 21) < (v4 + k) → ∀ (r9 : Int), ∀ (m9 : qm), P9 r9 m9 → q_in32 r9 → ¬ (48 ≤ r9 ∧ r9 ≤ 57) → (m9 188 21) ≠ v4 → ¬ (lo ≤ v5 ∧ v5 ≤ hi) → q_Ev yX12_fault cX12_fault 2 none 2 0 0 [(2, 188), (0, ((m9 188 21) - 1))] (q_sh0, q_rb b, m9) (qK (q_rb b) (P15 r9 m9)))
    (l20 : (mem 188 21) < (v4 + k) → ∀ (r9 : Int), ∀ (m9 : qm), P9 r9 m9 → q_in32 r9 → ¬ (48 ≤ r9 ∧ r9 ≤ 57) → (m9 188 21) ≠ v4 → ¬ (lo ≤ v5 ∧ v5 ≤ hi) → ∀ (r15 : Int), ∀ (m15 : qm), P15 r9 m9 r15 m15 → q_in32 r15 → ((m15 188 22) = -1) → Q v5 m15)
    (l21 : (mem 188 21) < (v4 + k) → ∀ (r9 : Int), ∀ (m9 : qm), P9 r9 m9 → q_in32 r9 → ¬ (48 ≤ r9 ∧ r9 ≤ 57) → (m9 188 21) ≠ v4 → ¬ (lo ≤ v5 ∧ v5 ≤ hi) → ∀ (r15 : Int), ∀ (m15 : qm), P15 r9 m9 r15 m15 → q_in32 r15 → ¬ ((m15 188 22) = -1) → Q 0 m15)
    {P17 : Int → qm → Int → qm → Prop}
    (l22 : (mem 188 21) < (v4 + k) → ∀ (r9 : Int), ∀ (m9 : qm), P9 r9 m9 → q_in32 r9 → ¬ (48 ≤ r9 ∧ r9 ≤ 57) → (m9 188 21) = v4 → q_Ev yX12_fault cX12_fault 2 none 2 0 0 [(2, 188), (0, (m9 188 21))] (q_sh0, q_rb b, m9) (qK (q_rb b) (P17 r9 m9)))
    (l23 : (mem 188 21) < (v4 + k) → ∀ (r9 : Int), ∀ (m9 : qm), P9 r9 m9 → q_in32 r9 → ¬ (48 ≤ r9 ∧ r9 ≤ 57) → (m9 188 21) = v4 → ∀ (r17 : Int), ∀ (m17 : qm), P17 r9 m9 r17 m17 → q_in32 r17 → ((m17 188 22) = -1) → Q v5 m17)
    (l24 : (mem 188 21) < (v4 + k) → ∀ (r9 : Int), ∀ (m9 : qm), P9 r9 m9 → q_in32 r9 → ¬ (48 ≤ r9 ∧ r9 ≤ 57) → (m9 188 21) = v4 → ∀ (r17 : Int), ∀ (m17 : qm), P17 r9 m9 r17 m17 → q_in32 r17 → ¬ ((m17 188 22) = -1) → Q 0 m17) :
    q_At yX12_number cX12_number 6 (some .int) 3 0 0 (qK (q_rb b) Q) 18 [(2, 188), (0, k), (0, lo), (0, hi), (0, v4), (0, v5)] [] (q_sh0, q_rb b, mem) := by
  refine q_aload_n dX12_number_18 rfl rfl ?_
  refine qx_getI (ci := 12) (k := 21) (v := (mem 188 21)) dX12_number_19 rfl rfl rfl tw1204 rfl qs188 rfl ?_
  refine q_iload dX12_number_22 rfl ?_
  refine q_iload_n dX12_number_24 rfl rfl ?_
  refine qx_iadd dX12_number_25 (o1) ?_
  refine qx_icmp_ge (tgt := 71) dX12_number_26 (by decide) (fun c1 => ?_) (fun c1 => ?_)
  · skip
    refine q_aload_n dX12_number_71 rfl rfl ?_
    refine qx_getI (ci := 12) (k := 21) (v := (mem 188 21)) dX12_number_72 rfl rfl rfl tw1204 rfl qs188 rfl ?_
    refine q_iload dX12_number_75 rfl ?_
    refine qx_icmp_ne (tgt := 91) dX12_number_77 (by decide) (fun c2 => ?_) (fun c2 => ?_)
    · skip
      refine q_iload dX12_number_91 rfl ?_
      refine q_iload_n dX12_number_93 rfl rfl ?_
      refine q_iload_n dX12_number_94 rfl rfl ?_
      refine qx_invS [(0, v5), (0, lo), (0, hi)] [(0, hi), (0, lo), (0, v5)] rfl qM_X12_in dX12_number_95 tw1362 rfl rfl rfl rfl (spX12_in) (fun r3 m3 p3 q3 => ?_)
      obtain ⟨p3e, ⟨p3f, p3⟩ | ⟨p3f, p3⟩⟩ := p3
      · rw [p3e, p3f]
        refine qx_if_ne (tgt := 111) dX12_number_98 (by decide) (fun _ => ?_) (fun z => absurd z (by decide))
        refine q_aload_n dX12_number_111 rfl rfl ?_
        refine qx_invV (ci := 12) [] [(2, 188)] rfl qM_X12_fine dX12_number_112 tw1373 rfl qs188 rfl rfl rfl rfl (spX12_fine) (fun r4 m4 p4 q4 => ?_)
        obtain ⟨p4e, ⟨p4f, p4⟩ | ⟨p4f, p4⟩⟩ := p4
        · rw [p4e, p4f]
          refine qx_if_eq (tgt := 123) dX12_number_115 (by decide) (fun z => absurd z (by decide)) (fun _ => ?_)
          refine q_iload dX12_number_118 rfl ?_
          refine q_goto (tgt := 124) dX12_number_120 (by decide) ?_
          exact q_iret dX12_number_124 (qK_i (l2 c1 c2 p3 p4))
        · rw [p4e, p4f]
          refine qx_if_eq (tgt := 123) dX12_number_115 (by decide) (fun _ => ?_) (fun z => absurd z (by decide))
          refine qx_iconst dX12_number_123 rfl rfl ?_
          exact q_iret dX12_number_124 (qK_i (l3 c1 c2 p3 p4))
      · rw [p3e, p3f]
        refine qx_if_ne (tgt := 111) dX12_number_98 (by decide) (fun z => absurd z (by decide)) (fun _ => ?_)
        refine q_aload_n dX12_number_101 rfl rfl ?_
        refine q_aload_n dX12_number_102 rfl rfl ?_
        refine qx_getI (ci := 12) (k := 21) (v := (mem 188 21)) dX12_number_103 rfl rfl rfl tw1204 rfl qs188 rfl ?_
        refine qx_iconst dX12_number_106 rfl rfl ?_
        refine qx_isub dX12_number_107 (o4 c1 c2 p3) ?_
        refine qx_invV (ci := 12) [(0, ((mem 188 21) - 1))] [(0, ((mem 188 21) - 1)), (2, 188)] rfl qM_X12_fault dX12_number_108 tw1389 rfl qs188 rfl rfl rfl rfl (l5 c1 c2 p3) (fun r5 m5 p5 q5 => ?_)
        refine q_aload_n dX12_number_111 rfl rfl ?_
        refine qx_invV (ci := 12) [] [(2, 188)] rfl qM_X12_fine dX12_number_112 tw1373 rfl qs188 rfl rfl rfl rfl (spX12_fine) (fun r6 m6 p6 q6 => ?_)
        obtain ⟨p6e, ⟨p6f, p6⟩ | ⟨p6f, p6⟩⟩ := p6
        · rw [p6e, p6f]
          refine qx_if_eq (tgt := 123) dX12_number_115 (by decide) (fun z => absurd z (by decide)) (fun _ => ?_)
          refine q_iload dX12_number_118 rfl ?_
          refine q_goto (tgt := 124) dX12_number_120 (by decide) ?_
          exact q_iret dX12_number_124 (qK_i (l6 c1 c2 p3 r5 m5 p5 q5 p6))
        · rw [p6e, p6f]
          refine qx_if_eq (tgt := 123) dX12_number_115 (by decide) (fun _ => ?_) (fun z => absurd z (by decide))
          refine qx_iconst dX12_number_123 rfl rfl ?_
          exact q_iret dX12_number_124 (qK_i (l7 c1 c2 p3 r5 m5 p5 q5 p6))
    · skip
      refine q_aload_n dX12_number_80 rfl rfl ?_
      refine q_aload_n dX12_number_81 rfl rfl ?_
      refine qx_getI (ci := 12) (k := 21) (v := (mem 188 21)) dX12_number_82 rfl rfl rfl tw1204 rfl qs188 rfl ?_
      refine qx_invV (ci := 12) [(0, (mem 188 21))] [(0, (mem 188 21)), (2, 188)] rfl qM_X12_fault dX12_number_85 tw1389 rfl qs188 rfl rfl rfl rfl (l8 c1 c2) (fun r7 m7 p7 q7 => ?_)
      refine q_goto (tgt := 111) dX12_number_88 (by decide) ?_
      refine q_aload_n dX12_number_111 rfl rfl ?_
      refine qx_invV (ci := 12) [] [(2, 188)] rfl qM_X12_fine dX12_number_112 tw1373 rfl qs188 rfl rfl rfl rfl (spX12_fine) (fun r8 m8 p8 q8 => ?_)
      obtain ⟨p8e, ⟨p8f, p8⟩ | ⟨p8f, p8⟩⟩ := p8
      · rw [p8e, p8f]
        refine qx_if_eq (tgt := 123) dX12_number_115 (by decide) (fun z => absurd z (by decide)) (fun _ => ?_)
        refine q_iload dX12_number_118 rfl ?_
        refine q_goto (tgt := 124) dX12_number_120 (by decide) ?_
        exact q_iret dX12_number_124 (qK_i (l9 c1 c2 r7 m7 p7 q7 p8))
      · rw [p8e, p8f]
        refine qx_if_eq (tgt := 123) dX12_number_115 (by decide) (fun _ => ?_) (fun z => absurd z (by decide))
        refine qx_iconst dX12_number_123 rfl rfl ?_
        exact q_iret dX12_number_124 (qK_i (l10 c1 c2 r7 m7 p7 q7 p8))
  · skip
    refine q_aload_n dX12_number_29 rfl rfl ?_
    refine qx_invV (ci := 12) [] [(2, 188)] rfl qM_X12_here dX12_number_30 tw1381 rfl qs188 rfl rfl rfl rfl (l11 c1) (fun r9 m9 p9 q9 => ?_)
    refine qx_bipush dX12_number_33 rfl rfl ?_
    refine qx_bipush dX12_number_35 rfl rfl ?_
    refine qx_invS [(0, r9), (0, 48), (0, 57)] [(0, 57), (0, 48), (0, r9)] rfl qM_X12_in dX12_number_37 tw1362 rfl rfl rfl rfl (spX12_in) (fun r10 m10 p10 q10 => ?_)
    obtain ⟨p10e, ⟨p10f, p10⟩ | ⟨p10f, p10⟩⟩ := p10
    · rw [p10e, p10f]
      refine qx_if_eq (tgt := 71) dX12_number_40 (by decide) (fun z => absurd z (by decide)) (fun _ => ?_)
      refine qx_bipush dX12_number_43 rfl rfl ?_
      refine q_iload dX12_number_45 rfl ?_
      refine qx_imul dX12_number_47 (o12 c1 r9 m9 p9 q9 p10) ?_
      refine q_aload_n dX12_number_48 rfl rfl ?_
      refine qx_invV (ci := 12) [] [(2, 188), (0, (10 * v5))] rfl qM_X12_here dX12_number_49 tw1381 rfl qs188 rfl rfl rfl rfl (l13 c1 r9 m9 p9 q9 p10) (fun r11 m11 p11 q11 => ?_)
      refine qx_iadd dX12_number_52 (o14 c1 r9 m9 p9 q9 p10 r11 m11 p11 q11).1 ?_
      refine qx_bipush dX12_number_53 rfl rfl ?_
      refine qx_isub dX12_number_55 (o14 c1 r9 m9 p9 q9 p10 r11 m11 p11 q11).2.1 ?_
      refine qx_istore (L' := [(2, 188), (0, k), (0, lo), (0, hi), (0, v4), (0, (((10 * v5) + r11) - 48))]) dX12_number_56 rfl rfl rfl ?_
      refine q_aload_n dX12_number_58 rfl rfl ?_
      refine q_dup dX12_number_59 (fun h => by cases h) ?_
      refine qx_getI (ci := 12) (k := 21) (v := (m11 188 21)) dX12_number_60 rfl rfl rfl tw1204 rfl qs188 rfl ?_
      refine qx_iconst dX12_number_63 rfl rfl ?_
      refine qx_iadd dX12_number_64 (o14 c1 r9 m9 p9 q9 p10 r11 m11 p11 q11).2.2 ?_
      refine q_putI (ci := 12) (k := 21) (kI := 21) (ty := .int) dX12_number_65 rfl (by decide) rfl tw1204 rfl rfl rfl (fun _ => ⟨rfl, rfl⟩) qs188 ?_
      refine q_goto (tgt := 18) dX12_number_68 (by decide) ?_
      exact l15 c1 r9 m9 p9 q9 p10 r11 m11 p11 q11
    · rw [p10e, p10f]
      refine qx_if_eq (tgt := 71) dX12_number_40 (by decide) (fun _ => ?_) (fun z => absurd z (by decide))
      refine q_aload_n dX12_number_71 rfl rfl ?_
      refine qx_getI (ci := 12) (k := 21) (v := (m9 188 21)) dX12_number_72 rfl rfl rfl tw1204 rfl qs188 rfl ?_
      refine q_iload dX12_number_75 rfl ?_
      refine qx_icmp_ne (tgt := 91) dX12_number_77 (by decide) (fun c12 => ?_) (fun c12 => ?_)
      · skip
        refine q_iload dX12_number_91 rfl ?_
        refine q_iload_n dX12_number_93 rfl rfl ?_
        refine q_iload_n dX12_number_94 rfl rfl ?_
        refine qx_invS [(0, v5), (0, lo), (0, hi)] [(0, hi), (0, lo), (0, v5)] rfl qM_X12_in dX12_number_95 tw1362 rfl rfl rfl rfl (spX12_in) (fun r13 m13 p13 q13 => ?_)
        obtain ⟨p13e, ⟨p13f, p13⟩ | ⟨p13f, p13⟩⟩ := p13
        · rw [p13e, p13f]
          refine qx_if_ne (tgt := 111) dX12_number_98 (by decide) (fun _ => ?_) (fun z => absurd z (by decide))
          refine q_aload_n dX12_number_111 rfl rfl ?_
          refine qx_invV (ci := 12) [] [(2, 188)] rfl qM_X12_fine dX12_number_112 tw1373 rfl qs188 rfl rfl rfl rfl (spX12_fine) (fun r14 m14 p14 q14 => ?_)
          obtain ⟨p14e, ⟨p14f, p14⟩ | ⟨p14f, p14⟩⟩ := p14
          · rw [p14e, p14f]
            refine qx_if_eq (tgt := 123) dX12_number_115 (by decide) (fun z => absurd z (by decide)) (fun _ => ?_)
            refine q_iload dX12_number_118 rfl ?_
            refine q_goto (tgt := 124) dX12_number_120 (by decide) ?_
            exact q_iret dX12_number_124 (qK_i (l16 c1 r9 m9 p9 q9 p10 c12 p13 p14))
          · rw [p14e, p14f]
            refine qx_if_eq (tgt := 123) dX12_number_115 (by decide) (fun _ => ?_) (fun z => absurd z (by decide))
            refine qx_iconst dX12_number_123 rfl rfl ?_
            exact q_iret dX12_number_124 (qK_i (l17 c1 r9 m9 p9 q9 p10 c12 p13 p14))
        · rw [p13e, p13f]
          refine qx_if_ne (tgt := 111) dX12_number_98 (by decide) (fun z => absurd z (by decide)) (fun _ => ?_)
          refine q_aload_n dX12_number_101 rfl rfl ?_
          refine q_aload_n dX12_number_102 rfl rfl ?_
          refine qx_getI (ci := 12) (k := 21) (v := (m9 188 21)) dX12_number_103 rfl rfl rfl tw1204 rfl qs188 rfl ?_
          refine qx_iconst dX12_number_106 rfl rfl ?_
          refine qx_isub dX12_number_107 (o18 c1 r9 m9 p9 q9 p10 c12 p13) ?_
          refine qx_invV (ci := 12) [(0, ((m9 188 21) - 1))] [(0, ((m9 188 21) - 1)), (2, 188)] rfl qM_X12_fault dX12_number_108 tw1389 rfl qs188 rfl rfl rfl rfl (l19 c1 r9 m9 p9 q9 p10 c12 p13) (fun r15 m15 p15 q15 => ?_)
          refine q_aload_n dX12_number_111 rfl rfl ?_
          refine qx_invV (ci := 12) [] [(2, 188)] rfl qM_X12_fine dX12_number_112 tw1373 rfl qs188 rfl rfl rfl rfl (spX12_fine) (fun r16 m16 p16 q16 => ?_)
          obtain ⟨p16e, ⟨p16f, p16⟩ | ⟨p16f, p16⟩⟩ := p16
          · rw [p16e, p16f]
            refine qx_if_eq (tgt := 123) dX12_number_115 (by decide) (fun z => absurd z (by decide)) (fun _ => ?_)
            refine q_iload dX12_number_118 rfl ?_
            refine q_goto (tgt := 124) dX12_number_120 (by decide) ?_
            exact q_iret dX12_number_124 (qK_i (l20 c1 r9 m9 p9 q9 p10 c12 p13 r15 m15 p15 q15 p16))
          · rw [p16e, p16f]
            refine qx_if_eq (tgt := 123) dX12_number_115 (by decide) (fun _ => ?_) (fun z => absurd z (by decide))
            refine qx_iconst dX12_number_123 rfl rfl ?_
            exact q_iret dX12_number_124 (qK_i (l21 c1 r9 m9 p9 q9 p10 c12 p13 r15 m15 p15 q15 p16))
      · skip
        refine q_aload_n dX12_number_80 rfl rfl ?_
        refine q_aload_n dX12_number_81 rfl rfl ?_
        refine qx_getI (ci := 12) (k := 21) (v := (m9 188 21)) dX12_number_82 rfl rfl rfl tw1204 rfl qs188 rfl ?_
        refine qx_invV (ci := 12) [(0, (m9 188 21))] [(0, (m9 188 21)), (2, 188)] rfl qM_X12_fault dX12_number_85 tw1389 rfl qs188 rfl rfl rfl rfl (l22 c1 r9 m9 p9 q9 p10 c12) (fun r17 m17 p17 q17 => ?_)
        refine q_goto (tgt := 111) dX12_number_88 (by decide) ?_
        refine q_aload_n dX12_number_111 rfl rfl ?_
        refine qx_invV (ci := 12) [] [(2, 188)] rfl qM_X12_fine dX12_number_112 tw1373 rfl qs188 rfl rfl rfl rfl (spX12_fine) (fun r18 m18 p18 q18 => ?_)
        obtain ⟨p18e, ⟨p18f, p18⟩ | ⟨p18f, p18⟩⟩ := p18
        · rw [p18e, p18f]
          refine qx_if_eq (tgt := 123) dX12_number_115 (by decide) (fun z => absurd z (by decide)) (fun _ => ?_)
          refine q_iload dX12_number_118 rfl ?_
          refine q_goto (tgt := 124) dX12_number_120 (by decide) ?_
          exact q_iret dX12_number_124 (qK_i (l23 c1 r9 m9 p9 q9 p10 c12 r17 m17 p17 q17 p18))
        · rw [p18e, p18f]
          refine qx_if_eq (tgt := 123) dX12_number_115 (by decide) (fun _ => ?_) (fun z => absurd z (by decide))
          refine qx_iconst dX12_number_123 rfl rfl ?_
          exact q_iret dX12_number_124 (qK_i (l24 c1 r9 m9 p9 q9 p10 c12 r17 m17 p17 q17 p18))
