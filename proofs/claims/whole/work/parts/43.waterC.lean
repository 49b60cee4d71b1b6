theorem dX11_drop_0 : decode cX11_drop 0 = .ok (.aload_n 0, 1) := by decide +kernel
theorem dX11_drop_1 : decode cX11_drop 1 = .ok (.iload_n 1, 1) := by decide +kernel
theorem dX11_drop_2 : decode cX11_drop 2 = .ok (.invokevirtual 131, 3) := by decide +kernel
theorem dX11_drop_5 : decode cX11_drop 5 = .ok (.ifCond .eq 32, 3) := by decide +kernel
theorem dX11_drop_8 : decode cX11_drop 8 = .ok (.iload_n 2, 1) := by decide +kernel
theorem dX11_drop_9 : decode cX11_drop 9 = .ok (.ifCond .lt 28, 3) := by decide +kernel
theorem dX11_drop_12 : decode cX11_drop 12 = .ok (.iload_n 2, 1) := by decide +kernel
theorem dX11_drop_13 : decode cX11_drop 13 = .ok (.aload_n 0, 1) := by decide +kernel
theorem dX11_drop_14 : decode cX11_drop 14 = .ok (.getfield 19, 3) := by decide +kernel
theorem dX11_drop_17 : decode cX11_drop 17 = .ok (.getfield 142, 3) := by decide +kernel
theorem dX11_drop_20 : decode cX11_drop 20 = .ok (.iload_n 1, 1) := by decide +kernel
theorem dX11_drop_21 : decode cX11_drop 21 = .ok (.iaload, 1) := by decide +kernel
theorem dX11_drop_22 : decode cX11_drop 22 = .ok (.if_icmp .ge 15, 3) := by decide +kernel
theorem dX11_drop_25 : decode cX11_drop 25 = .ok (.aload_n 0, 1) := by decide +kernel
theorem dX11_drop_26 : decode cX11_drop 26 = .ok (.getfield 19, 3) := by decide +kernel
theorem dX11_drop_29 : decode cX11_drop 29 = .ok (.iload_n 1, 1) := by decide +kernel
theorem dX11_drop_30 : decode cX11_drop 30 = .ok (.iload_n 2, 1) := by decide +kernel
theorem dX11_drop_31 : decode cX11_drop 31 = .ok (.invokevirtual 376, 3) := by decide +kernel
theorem dX11_drop_34 : decode cX11_drop 34 = .ok (.goto 4, 3) := by decide +kernel
theorem dX11_drop_37 : decode cX11_drop 37 = .ok (.iconst (-1), 1) := by decide +kernel
theorem dX11_drop_38 : decode cX11_drop 38 = .ok (.ireturn, 1) := by decide +kernel
theorem bkX11_drop_0 {b : Int} {mem : qm} {Q : Int → qm → Prop}
    {j v : Int}
    (l1 : (0 ≤ j ∧ j < (mem 1 3)) → v < 0 → Q (-1) mem)
    (o2 : (0 ≤ j ∧ j < (mem 1 3)) → 0 ≤ v → (0 ≤ j ∧ j < 9))
    (l3 : (0 ≤ j ∧ j < (mem 1 3)) → 0 ≤ v → (mem 8 j) ≤ v → Q (-1) mem)
    {P4 : Int → qm → Prop}
    (l4 : (0 ≤ j ∧ j < (mem 1 3)) → 0 ≤ v → v < (mem 8 j) → q_Ev yX7_originAt cX7_originAt 3 (some .int) 2 0 0 [(2, 5), (0, j), (0, v)] (q_sh0, q_rb b, mem) (qK (q_rb b) (P4)))
    (l5 : (0 ≤ j ∧ j < (mem 1 3)) → 0 ≤ v → v < (mem 8 j) → ∀ (r4 : Int), ∀ (m4 : qm), P4 r4 m4 → q_in32 r4 → Q r4 m4)
    (l6 : ¬ (0 ≤ j ∧ j < (mem 1 3)) → Q (-1) mem) :
    q_At yX11_drop cX11_drop 3 (some .int) 3 0 0 (qK (q_rb b) Q) 0 [(2, 0), (0, j), (0, v)] [] (q_sh0, q_rb b, mem) := by
  refine q_aload_n dX11_drop_0 rfl rfl ?_
  refine q_iload_n dX11_drop_1 rfl rfl ?_
  refine qx_invV (ci := 11) [(0, j)] [(0, j), (2, 0)] rfl qM_X11_isJar dX11_drop_2 tw576 rfl qs0 rfl rfl rfl rfl (spX11_isJar) (fun r1 m1 p1 q1 => ?_)
  obtain ⟨p1e, ⟨p1f, p1⟩ | ⟨p1f, p1⟩⟩ := p1
  · rw [p1e, p1f]
    refine qx_if_eq (tgt := 37) dX11_drop_5 (by decide) (fun z => absurd z (by decide)) (fun _ => ?_)
    refine q_iload_n dX11_drop_8 rfl rfl ?_
    refine qx_if_lt (tgt := 37) dX11_drop_9 (by decide) (fun c2 => ?_) (fun c2 => ?_)
    · skip
      refine qx_iconst dX11_drop_37 rfl rfl ?_
      exact q_iret dX11_drop_38 (qK_i (l1 p1 c2))
    · skip
      refine q_iload_n dX11_drop_12 rfl rfl ?_
      refine q_aload_n dX11_drop_13 rfl rfl ?_
      refine q_getR (ci := 11) (k := 1) dX11_drop_14 rfl (by decide) rfl tw350 (by decide) qs0 qw0_1 (by decide) ?_
      refine q_getR (ci := 7) (k := 2) dX11_drop_17 rfl (by decide) rfl tw77 (by decide) qs5 qw5_2 (by decide) ?_
      refine q_iload_n dX11_drop_20 rfl rfl ?_
      refine qx_iald (v := (mem 8 j)) dX11_drop_21 qs8 (o2 p1 c2) rfl ?_
      refine qx_icmp_ge (tgt := 37) dX11_drop_22 (by decide) (fun c3 => ?_) (fun c3 => ?_)
      · skip
        refine qx_iconst dX11_drop_37 rfl rfl ?_
        exact q_iret dX11_drop_38 (qK_i (l3 p1 c2 c3))
      · skip
        refine q_aload_n dX11_drop_25 rfl rfl ?_
        refine q_getR (ci := 11) (k := 1) dX11_drop_26 rfl (by decide) rfl tw350 (by decide) qs0 qw0_1 (by decide) ?_
        refine q_iload_n dX11_drop_29 rfl rfl ?_
        refine q_iload_n dX11_drop_30 rfl rfl ?_
        refine qx_invV (ci := 7) [(0, j), (0, v)] [(0, v), (0, j), (2, 5)] rfl qM_X7_originAt dX11_drop_31 tw1017 rfl qs5 rfl rfl rfl rfl (l4 p1 c2 c3) (fun r4 m4 p4 q4 => ?_)
        refine q_goto (tgt := 38) dX11_drop_34 (by decide) ?_
        exact q_iret dX11_drop_38 (qK_i (l5 p1 c2 c3 r4 m4 p4 q4))
  · rw [p1e, p1f]
    refine qx_if_eq (tgt := 37) dX11_drop_5 (by decide) (fun _ => ?_) (fun z => absurd z (by decide))
    refine qx_iconst dX11_drop_37 rfl rfl ?_
    exact q_iret dX11_drop_38 (qK_i (l6 p1))
theorem dX11_share_0 : decode cX11_share 0 = .ok (.aload_n 0, 1) := by decide +kernel
theorem dX11_share_1 : decode cX11_share 1 = .ok (.iload_n 1, 1) := by decide +kernel
theorem dX11_share_2 : decode cX11_share 2 = .ok (.invokevirtual 131, 3) := by decide +kernel
theorem dX11_share_5 : decode cX11_share 5 = .ok (.ifCond .eq 31, 3) := by decide +kernel
theorem dX11_share_8 : decode cX11_share 8 = .ok (.iload_n 2, 1) := by decide +kernel
theorem dX11_share_9 : decode cX11_share 9 = .ok (.invokestatic 188, 3) := by decide +kernel
theorem dX11_share_12 : decode cX11_share 12 = .ok (.ifCond .eq 24, 3) := by decide +kernel
theorem dX11_share_15 : decode cX11_share 15 = .ok (.aload_n 0, 1) := by decide +kernel
theorem dX11_share_16 : decode cX11_share 16 = .ok (.getfield 19, 3) := by decide +kernel
theorem dX11_share_19 : decode cX11_share 19 = .ok (.iload_n 2, 1) := by decide +kernel
theorem dX11_share_20 : decode cX11_share 20 = .ok (.iload_n 1, 1) := by decide +kernel
theorem dX11_share_21 : decode cX11_share 21 = .ok (.aload_n 0, 1) := by decide +kernel
theorem dX11_share_22 : decode cX11_share 22 = .ok (.getfield 19, 3) := by decide +kernel
theorem dX11_share_25 : decode cX11_share 25 = .ok (.getfield 142, 3) := by decide +kernel
theorem dX11_share_28 : decode cX11_share 28 = .ok (.iload_n 1, 1) := by decide +kernel
theorem dX11_share_29 : decode cX11_share 29 = .ok (.iaload, 1) := by decide +kernel
theorem dX11_share_30 : decode cX11_share 30 = .ok (.invokevirtual 361, 3) := by decide +kernel
theorem dX11_share_33 : decode cX11_share 33 = .ok (.goto 4, 3) := by decide +kernel
theorem dX11_share_36 : decode cX11_share 36 = .ok (.iconst (-1), 1) := by decide +kernel
theorem dX11_share_37 : decode cX11_share 37 = .ok (.ireturn, 1) := by decide +kernel
theorem bkX11_share_0 {b : Int} {mem : qm} {Q : Int → qm → Prop}
    {j v : Int}
    (o1 : (0 ≤ j ∧ j < (mem 1 3)) → (0 ≤ v ∧ v < 7) → (0 ≤ j ∧ j < 9))
    {P3 : Int → qm → Prop}
    (l2 : (0 ≤ j ∧ j < (mem 1 3)) → (0 ≤ v ∧ v < 7) → q_Ev yX7_dropsFrom cX7_dropsFrom 6 (some .int) 3 0 0 [(2, 5), (0, v), (0, j), (0, (mem 8 j))] (q_sh0, q_rb b, mem) (qK (q_rb b) (P3)))
    (l3 : (0 ≤ j ∧ j < (mem 1 3)) → (0 ≤ v ∧ v < 7) → ∀ (r3 : Int), ∀ (m3 : qm), P3 r3 m3 → q_in32 r3 → Q r3 m3)
    (l4 : (0 ≤ j ∧ j < (mem 1 3)) → ¬ (0 ≤ v ∧ v < 7) → Q (-1) mem)
    (l5 : ¬ (0 ≤ j ∧ j < (mem 1 3)) → Q (-1) mem) :
    q_At yX11_share cX11_share 3 (some .int) 4 0 0 (qK (q_rb b) Q) 0 [(2, 0), (0, j), (0, v)] [] (q_sh0, q_rb b, mem) := by
  refine q_aload_n dX11_share_0 rfl rfl ?_
  refine q_iload_n dX11_share_1 rfl rfl ?_
  refine qx_invV (ci := 11) [(0, j)] [(0, j), (2, 0)] rfl qM_X11_isJar dX11_share_2 tw576 rfl qs0 rfl rfl rfl rfl (spX11_isJar) (fun r1 m1 p1 q1 => ?_)
  obtain ⟨p1e, ⟨p1f, p1⟩ | ⟨p1f, p1⟩⟩ := p1
  · rw [p1e, p1f]
    refine qx_if_eq (tgt := 36) dX11_share_5 (by decide) (fun z => absurd z (by decide)) (fun _ => ?_)
    refine q_iload_n dX11_share_8 rfl rfl ?_
    refine qx_invS [(0, v)] [(0, v)] rfl qM_X11_isOrigin dX11_share_9 tw603 rfl rfl rfl rfl (spX11_isOrigin) (fun r2 m2 p2 q2 => ?_)
    obtain ⟨p2e, ⟨p2f, p2⟩ | ⟨p2f, p2⟩⟩ := p2
    · rw [p2e, p2f]
      refine qx_if_eq (tgt := 36) dX11_share_12 (by decide) (fun z => absurd z (by decide)) (fun _ => ?_)
      refine q_aload_n dX11_share_15 rfl rfl ?_
      refine q_getR (ci := 11) (k := 1) dX11_share_16 rfl (by decide) rfl tw350 (by decide) qs0 qw0_1 (by decide) ?_
      refine q_iload_n dX11_share_19 rfl rfl ?_
      refine q_iload_n dX11_share_20 rfl rfl ?_
      refine q_aload_n dX11_share_21 rfl rfl ?_
      refine q_getR (ci := 11) (k := 1) dX11_share_22 rfl (by decide) rfl tw350 (by decide) qs0 qw0_1 (by decide) ?_
      refine q_getR (ci := 7) (k := 2) dX11_share_25 rfl (by decide) rfl tw77 (by decide) qs5 qw5_2 (by decide) ?_
      refine q_iload_n dX11_share_28 rfl rfl ?_
      refine qx_iald (v := (mem 8 j)) dX11_share_29 qs8 (o1 p1 p2) rfl ?_
      refine qx_invV (ci := 7) [(0, v), (0, j), (0, (mem 8 j))] [(0, (mem 8 j)), (0, j), (0, v), (2, 5)] rfl qM_X7_dropsFrom dX11_share_30 tw969 rfl qs5 rfl rfl rfl rfl (l2 p1 p2) (fun r3 m3 p3 q3 => ?_)
      refine q_goto (tgt := 37) dX11_share_33 (by decide) ?_
      exact q_iret dX11_share_37 (qK_i (l3 p1 p2 r3 m3 p3 q3))
    · rw [p2e, p2f]
      refine qx_if_eq (tgt := 36) dX11_share_12 (by decide) (fun _ => ?_) (fun z => absurd z (by decide))
      refine qx_iconst dX11_share_36 rfl rfl ?_
      exact q_iret dX11_share_37 (qK_i (l4 p1 p2))
  · rw [p1e, p1f]
    refine qx_if_eq (tgt := 36) dX11_share_5 (by decide) (fun _ => ?_) (fun z => absurd z (by decide))
    refine qx_iconst dX11_share_36 rfl rfl ?_
    exact q_iret dX11_share_37 (qK_i (l5 p1))
theorem dX11_cup_0 : decode cX11_cup 0 = .ok (.aload_n 0, 1) := by decide +kernel
theorem dX11_cup_1 : decode cX11_cup 1 = .ok (.iload_n 1, 1) := by decide +kernel
theorem dX11_cup_2 : decode cX11_cup 2 = .ok (.invokevirtual 131, 3) := by decide +kernel
theorem dX11_cup_5 : decode cX11_cup 5 = .ok (.ifCond .eq 13, 3) := by decide +kernel
theorem dX11_cup_8 : decode cX11_cup 8 = .ok (.iload_n 2, 1) := by decide +kernel
theorem dX11_cup_9 : decode cX11_cup 9 = .ok (.ifCond .lt 9, 3) := by decide +kernel
theorem dX11_cup_12 : decode cX11_cup 12 = .ok (.iload_n 2, 1) := by decide +kernel
theorem dX11_cup_13 : decode cX11_cup 13 = .ok (.bipush 60, 2) := by decide +kernel
theorem dX11_cup_15 : decode cX11_cup 15 = .ok (.if_icmp .le 5, 3) := by decide +kernel
theorem dX11_cup_18 : decode cX11_cup 18 = .ok (.iconst (-1), 1) := by decide +kernel
theorem dX11_cup_19 : decode cX11_cup 19 = .ok (.ireturn, 1) := by decide +kernel
theorem dX11_cup_20 : decode cX11_cup 20 = .ok (.iload_n 2, 1) := by decide +kernel
theorem dX11_cup_21 : decode cX11_cup 21 = .ok (.aload_n 0, 1) := by decide +kernel
theorem dX11_cup_22 : decode cX11_cup 22 = .ok (.getfield 19, 3) := by decide +kernel
theorem dX11_cup_25 : decode cX11_cup 25 = .ok (.getfield 142, 3) := by decide +kernel
theorem dX11_cup_28 : decode cX11_cup 28 = .ok (.iload_n 1, 1) := by decide +kernel
theorem dX11_cup_29 : decode cX11_cup 29 = .ok (.iaload, 1) := by decide +kernel
theorem dX11_cup_30 : decode cX11_cup 30 = .ok (.invokestatic 180, 3) := by decide +kernel
theorem dX11_cup_33 : decode cX11_cup 33 = .ok (.istore_n 3, 1) := by decide +kernel
theorem dX11_cup_34 : decode cX11_cup 34 = .ok (.aload_n 0, 1) := by decide +kernel
theorem dX11_cup_35 : decode cX11_cup 35 = .ok (.invokevirtual 223, 3) := by decide +kernel
theorem dX11_cup_38 : decode cX11_cup 38 = .ok (.iconst 0, 1) := by decide +kernel
theorem dX11_cup_39 : decode cX11_cup 39 = .ok (.istore 4, 2) := by decide +kernel
theorem dX11_cup_41 : decode cX11_cup 41 = .ok (.iload 4, 2) := by decide +kernel
theorem dX11_cup_43 : decode cX11_cup 43 = .ok (.bipush 7, 2) := by decide +kernel
theorem dX11_cup_45 : decode cX11_cup 45 = .ok (.if_icmp .ge 24, 3) := by decide +kernel
theorem dX11_cup_48 : decode cX11_cup 48 = .ok (.aload_n 0, 1) := by decide +kernel
theorem dX11_cup_49 : decode cX11_cup 49 = .ok (.aload_n 0, 1) := by decide +kernel
theorem dX11_cup_50 : decode cX11_cup 50 = .ok (.getfield 19, 3) := by decide +kernel
theorem dX11_cup_53 : decode cX11_cup 53 = .ok (.iload 4, 2) := by decide +kernel
theorem dX11_cup_55 : decode cX11_cup 55 = .ok (.iload_n 1, 1) := by decide +kernel
theorem dX11_cup_56 : decode cX11_cup 56 = .ok (.iload_n 3, 1) := by decide +kernel
theorem dX11_cup_57 : decode cX11_cup 57 = .ok (.invokevirtual 361, 3) := by decide +kernel
theorem dX11_cup_60 : decode cX11_cup 60 = .ok (.invokevirtual 229, 3) := by decide +kernel
theorem dX11_cup_63 : decode cX11_cup 63 = .ok (.iinc 4 1, 3) := by decide +kernel
theorem dX11_cup_66 : decode cX11_cup 66 = .ok (.goto (-25), 3) := by decide +kernel
theorem dX11_cup_69 : decode cX11_cup 69 = .ok (.iload_n 3, 1) := by decide +kernel
theorem dX11_cup_70 : decode cX11_cup 70 = .ok (.ireturn, 1) := by decide +kernel
theorem bkX11_cup_0 {b : Int} {mem : qm} {Q : Int → qm → Prop}
    {j v : Int}
    (l1 : (0 ≤ j ∧ j < (mem 1 3)) → v < 0 → Q (-1) mem)
    (o2 : (0 ≤ j ∧ j < (mem 1 3)) → 0 ≤ v → v ≤ 60 → (0 ≤ j ∧ j < 9))
    (l3 : (0 ≤ j ∧ j < (mem 1 3)) → 0 ≤ v → v ≤ 60 → q_At yX11_cup cX11_cup 5 (some .int) 4 0 0 (qK (q_rb b) Q) 41 [(2, 0), (0, j), (0, v), (0, (min v (mem 8 j))), (0, 0)] [] (q_sh0, q_rb b, (q_up mem 0 16 0)))
    (l4 : (0 ≤ j ∧ j < (mem 1 3)) → 0 ≤ v → 60 < v → Q (-1) mem)
    (l5 : ¬ (0 ≤ j ∧ j < (mem 1 3)) → Q (-1) mem) :
    q_At yX11_cup cX11_cup 5 (some .int) 4 0 0 (qK (q_rb b) Q) 0 [(2, 0), (0, j), (0, v), (4, 0), (4, 0)] [] (q_sh0, q_rb b, mem) := by
  refine q_aload_n dX11_cup_0 rfl rfl ?_
  refine q_iload_n dX11_cup_1 rfl rfl ?_
  refine qx_invV (ci := 11) [(0, j)] [(0, j), (2, 0)] rfl qM_X11_isJar dX11_cup_2 tw576 rfl qs0 rfl rfl rfl rfl (spX11_isJar) (fun r1 m1 p1 q1 => ?_)
  obtain ⟨p1e, ⟨p1f, p1⟩ | ⟨p1f, p1⟩⟩ := p1
  · rw [p1e, p1f]
    refine qx_if_eq (tgt := 18) dX11_cup_5 (by decide) (fun z => absurd z (by decide)) (fun _ => ?_)
    refine q_iload_n dX11_cup_8 rfl rfl ?_
    refine qx_if_lt (tgt := 18) dX11_cup_9 (by decide) (fun c2 => ?_) (fun c2 => ?_)
    · skip
      refine qx_iconst dX11_cup_18 rfl rfl ?_
      exact q_iret dX11_cup_19 (qK_i (l1 p1 c2))
    · skip
      refine q_iload_n dX11_cup_12 rfl rfl ?_
      refine qx_bipush dX11_cup_13 rfl rfl ?_
      refine qx_icmp_le (tgt := 20) dX11_cup_15 (by decide) (fun c3 => ?_) (fun c3 => ?_)
      · skip
        refine q_iload_n dX11_cup_20 rfl rfl ?_
        refine q_aload_n dX11_cup_21 rfl rfl ?_
        refine q_getR (ci := 11) (k := 1) dX11_cup_22 rfl (by decide) rfl tw350 (by decide) qs0 qw0_1 (by decide) ?_
        refine q_getR (ci := 7) (k := 2) dX11_cup_25 rfl (by decide) rfl tw77 (by decide) qs5 qw5_2 (by decide) ?_
        refine q_iload_n dX11_cup_28 rfl rfl ?_
        refine qx_iald (v := (mem 8 j)) dX11_cup_29 qs8 (o2 p1 c2 c3) rfl ?_
        refine q_min dX11_cup_30 tw595 tw429 tw15 tw430 (by decide) (Nat.le_of_ble_eq_true rfl) ?_
        refine qx_istore_n (L' := [(2, 0), (0, j), (0, v), (0, (min v (mem 8 j))), (4, 0)]) dX11_cup_33 rfl rfl rfl rfl ?_
        refine q_aload_n dX11_cup_34 rfl rfl ?_
        refine qx_invV (ci := 11) [] [(2, 0)] rfl qM_X11_clearRow dX11_cup_35 tw691 rfl qs0 rfl rfl rfl rfl (spX11_clearRow) (fun r4 m4 p4 q4 => ?_)
        obtain rfl := p4
        refine qx_iconst dX11_cup_38 rfl rfl ?_
        refine qx_istore (L' := [(2, 0), (0, j), (0, v), (0, (min v (mem 8 j))), (0, 0)]) dX11_cup_39 rfl rfl rfl ?_
        exact l3 p1 c2 c3
      · skip
        refine qx_iconst dX11_cup_18 rfl rfl ?_
        exact q_iret dX11_cup_19 (qK_i (l4 p1 c2 c3))
  · rw [p1e, p1f]
    refine qx_if_eq (tgt := 18) dX11_cup_5 (by decide) (fun _ => ?_) (fun z => absurd z (by decide))
    refine qx_iconst dX11_cup_18 rfl rfl ?_
    exact q_iret dX11_cup_19 (qK_i (l5 p1))
theorem bkX11_cup_41 {b : Int} {mem : qm} {Q : Int → qm → Prop}
    {j v v3 v4 : Int}
    (l1 : 7 ≤ v4 → Q v3 mem)
    {P2 : Int → qm → Prop}
    (l2 : v4 < 7 → q_Ev yX7_dropsFrom cX7_dropsFrom 6 (some .int) 3 0 0 [(2, 5), (0, v4), (0, j), (0, v3)] (q_sh0, q_rb b, mem) (qK (q_rb b) (P2)))
    (o3 : v4 < 7 → ∀ (r2 : Int), ∀ (m2 : qm), P2 r2 m2 → q_in32 r2 → (0 ≤ (m2 0 16) ∧ (m2 0 16) < 10) ∧ q_in32 (v4 + 1))
    (l4 : v4 < 7 → ∀ (r2 : Int), ∀ (m2 : qm), P2 r2 m2 → q_in32 r2 → q_At yX11_cup cX11_cup 5 (some .int) 4 0 0 (qK (q_rb b) Q) 41 [(2, 0), (0, j), (0, v), (0, v3), (0, (v4 + 1))] [] (q_sh0, q_rb b, (q_up (q_up m2 169 (m2 0 16) r2) 0 16 ((m2 0 16) + 1)))) :
    q_At yX11_cup cX11_cup 5 (some .int) 4 0 0 (qK (q_rb b) Q) 41 [(2, 0), (0, j), (0, v), (0, v3), (0, v4)] [] (q_sh0, q_rb b, mem) := by
  refine q_iload dX11_cup_41 rfl ?_
  refine qx_bipush dX11_cup_43 rfl rfl ?_
  refine qx_icmp_ge (tgt := 69) dX11_cup_45 (by decide) (fun c1 => ?_) (fun c1 => ?_)
  · skip
    refine q_iload_n dX11_cup_69 rfl rfl ?_
    exact q_iret dX11_cup_70 (qK_i (l1 c1))
  · skip
    refine q_aload_n dX11_cup_48 rfl rfl ?_
    refine q_aload_n dX11_cup_49 rfl rfl ?_
    refine q_getR (ci := 11) (k := 1) dX11_cup_50 rfl (by decide) rfl tw350 (by decide) qs0 qw0_1 (by decide) ?_
    refine q_iload dX11_cup_53 rfl ?_
    refine q_iload_n dX11_cup_55 rfl rfl ?_
    refine q_iload_n dX11_cup_56 rfl rfl ?_
    refine qx_invV (ci := 7) [(0, v4), (0, j), (0, v3)] [(0, v3), (0, j), (0, v4), (2, 5), (2, 0)] rfl qM_X7_dropsFrom dX11_cup_57 tw969 rfl qs5 rfl rfl rfl rfl (l2 c1) (fun r2 m2 p2 q2 => ?_)
    refine qx_invV (ci := 11) [(0, r2)] [(0, r2), (2, 0)] rfl qM_X11_tell dX11_cup_60 tw699 rfl qs0 rfl rfl rfl rfl (spX11_tell (o3 c1 r2 m2 p2 q2).1) (fun r3 m3 p3 q3 => ?_)
    obtain rfl := p3
    refine qx_iinc (L' := [(2, 0), (0, j), (0, v), (0, v3), (0, (v4 + 1))]) dX11_cup_63 rfl rfl rfl (o3 c1 r2 m2 p2 q2).2 rfl ?_
    refine q_goto (tgt := 41) dX11_cup_66 (by decide) ?_
    exact l4 c1 r2 m2 p2 q2
theorem dX11_spread_0 : decode cX11_spread 0 = .ok (.iload_n 1, 1) := by decide +kernel
theorem dX11_spread_1 : decode cX11_spread 1 = .ok (.invokestatic 188, 3) := by decide +kernel
theorem dX11_spread_4 : decode cX11_spread 4 = .ok (.ifCond .ne 5, 3) := by decide +kernel
theorem dX11_spread_7 : decode cX11_spread 7 = .ok (.iconst (-1), 1) := by decide +kernel
theorem dX11_spread_8 : decode cX11_spread 8 = .ok (.ireturn, 1) := by decide +kernel
theorem dX11_spread_9 : decode cX11_spread 9 = .ok (.iconst 0, 1) := by decide +kernel
theorem dX11_spread_10 : decode cX11_spread 10 = .ok (.istore_n 2, 1) := by decide +kernel
theorem dX11_spread_11 : decode cX11_spread 11 = .ok (.iconst 0, 1) := by decide +kernel
theorem dX11_spread_12 : decode cX11_spread 12 = .ok (.istore_n 3, 1) := by decide +kernel
theorem dX11_spread_13 : decode cX11_spread 13 = .ok (.iconst (-1), 1) := by decide +kernel
theorem dX11_spread_14 : decode cX11_spread 14 = .ok (.istore 4, 2) := by decide +kernel
theorem dX11_spread_16 : decode cX11_spread 16 = .ok (.iconst 0, 1) := by decide +kernel
theorem dX11_spread_17 : decode cX11_spread 17 = .ok (.istore 5, 2) := by decide +kernel
theorem dX11_spread_19 : decode cX11_spread 19 = .ok (.iconst 0, 1) := by decide +kernel
theorem dX11_spread_20 : decode cX11_spread 20 = .ok (.istore 6, 2) := by decide +kernel
theorem dX11_spread_22 : decode cX11_spread 22 = .ok (.iload 6, 2) := by decide +kernel
theorem dX11_spread_24 : decode cX11_spread 24 = .ok (.aload_n 0, 1) := by decide +kernel
theorem dX11_spread_25 : decode cX11_spread 25 = .ok (.getfield 10, 3) := by decide +kernel
theorem dX11_spread_28 : decode cX11_spread 28 = .ok (.getfield 173, 3) := by decide +kernel
theorem dX11_spread_31 : decode cX11_spread 31 = .ok (.if_icmp .ge 67, 3) := by decide +kernel
theorem dX11_spread_34 : decode cX11_spread 34 = .ok (.aload_n 0, 1) := by decide +kernel
theorem dX11_spread_35 : decode cX11_spread 35 = .ok (.getfield 19, 3) := by decide +kernel
theorem dX11_spread_38 : decode cX11_spread 38 = .ok (.iload_n 1, 1) := by decide +kernel
theorem dX11_spread_39 : decode cX11_spread 39 = .ok (.iload 6, 2) := by decide +kernel
theorem dX11_spread_41 : decode cX11_spread 41 = .ok (.aload_n 0, 1) := by decide +kernel
theorem dX11_spread_42 : decode cX11_spread 42 = .ok (.getfield 19, 3) := by decide +kernel
theorem dX11_spread_45 : decode cX11_spread 45 = .ok (.getfield 142, 3) := by decide +kernel
theorem dX11_spread_48 : decode cX11_spread 48 = .ok (.iload 6, 2) := by decide +kernel
theorem dX11_spread_50 : decode cX11_spread 50 = .ok (.iaload, 1) := by decide +kernel
theorem dX11_spread_51 : decode cX11_spread 51 = .ok (.invokevirtual 361, 3) := by decide +kernel
theorem dX11_spread_54 : decode cX11_spread 54 = .ok (.istore 7, 2) := by decide +kernel
theorem dX11_spread_56 : decode cX11_spread 56 = .ok (.iload_n 2, 1) := by decide +kernel
theorem dX11_spread_57 : decode cX11_spread 57 = .ok (.iload 7, 2) := by decide +kernel
theorem dX11_spread_59 : decode cX11_spread 59 = .ok (.iadd, 1) := by decide +kernel
theorem dX11_spread_60 : decode cX11_spread 60 = .ok (.istore_n 2, 1) := by decide +kernel
theorem dX11_spread_61 : decode cX11_spread 61 = .ok (.iload 5, 2) := by decide +kernel
theorem dX11_spread_63 : decode cX11_spread 63 = .ok (.iload 7, 2) := by decide +kernel
theorem dX11_spread_65 : decode cX11_spread 65 = .ok (.ifCond .le 10, 3) := by decide +kernel
theorem dX11_spread_68 : decode cX11_spread 68 = .ok (.iconst 1, 1) := by decide +kernel
theorem dX11_spread_69 : decode cX11_spread 69 = .ok (.iload 6, 2) := by decide +kernel
theorem dX11_spread_71 : decode cX11_spread 71 = .ok (.ishl, 1) := by decide +kernel
theorem dX11_spread_72 : decode cX11_spread 72 = .ok (.goto 4, 3) := by decide +kernel
theorem dX11_spread_75 : decode cX11_spread 75 = .ok (.iconst 0, 1) := by decide +kernel
theorem dX11_spread_76 : decode cX11_spread 76 = .ok (.ior, 1) := by decide +kernel
theorem dX11_spread_77 : decode cX11_spread 77 = .ok (.istore 5, 2) := by decide +kernel
theorem dX11_spread_79 : decode cX11_spread 79 = .ok (.iload 7, 2) := by decide +kernel
theorem dX11_spread_81 : decode cX11_spread 81 = .ok (.iload_n 3, 1) := by decide +kernel
theorem dX11_spread_82 : decode cX11_spread 82 = .ok (.if_icmp .le 10, 3) := by decide +kernel
theorem dX11_spread_85 : decode cX11_spread 85 = .ok (.iload 7, 2) := by decide +kernel
theorem dX11_spread_87 : decode cX11_spread 87 = .ok (.istore_n 3, 1) := by decide +kernel
theorem dX11_spread_88 : decode cX11_spread 88 = .ok (.iload 6, 2) := by decide +kernel
theorem dX11_spread_90 : decode cX11_spread 90 = .ok (.istore 4, 2) := by decide +kernel
theorem dX11_spread_92 : decode cX11_spread 92 = .ok (.iinc 6 1, 3) := by decide +kernel
theorem dX11_spread_95 : decode cX11_spread 95 = .ok (.goto (-73), 3) := by decide +kernel
theorem dX11_spread_98 : decode cX11_spread 98 = .ok (.aload_n 0, 1) := by decide +kernel
theorem dX11_spread_99 : decode cX11_spread 99 = .ok (.invokevirtual 223, 3) := by decide +kernel
theorem dX11_spread_102 : decode cX11_spread 102 = .ok (.iload_n 2, 1) := by decide +kernel
theorem dX11_spread_103 : decode cX11_spread 103 = .ok (.ifCond .le 20, 3) := by decide +kernel
theorem dX11_spread_106 : decode cX11_spread 106 = .ok (.aload_n 0, 1) := by decide +kernel
theorem dX11_spread_107 : decode cX11_spread 107 = .ok (.iload 4, 2) := by decide +kernel
theorem dX11_spread_109 : decode cX11_spread 109 = .ok (.invokevirtual 229, 3) := by decide +kernel
theorem dX11_spread_112 : decode cX11_spread 112 = .ok (.aload_n 0, 1) := by decide +kernel
theorem dX11_spread_113 : decode cX11_spread 113 = .ok (.iload_n 3, 1) := by decide +kernel
theorem dX11_spread_114 : decode cX11_spread 114 = .ok (.invokevirtual 229, 3) := by decide +kernel
theorem dX11_spread_117 : decode cX11_spread 117 = .ok (.aload_n 0, 1) := by decide +kernel
theorem dX11_spread_118 : decode cX11_spread 118 = .ok (.iload 5, 2) := by decide +kernel
theorem dX11_spread_120 : decode cX11_spread 120 = .ok (.invokevirtual 229, 3) := by decide +kernel
theorem dX11_spread_123 : decode cX11_spread 123 = .ok (.iload_n 2, 1) := by decide +kernel
theorem dX11_spread_124 : decode cX11_spread 124 = .ok (.ireturn, 1) := by decide +kernel
theorem bkX11_spread_0 {b : Int} {mem : qm} {Q : Int → qm → Prop}
    {v : Int}
    (l1 : (0 ≤ v ∧ v < 7) → q_At yX11_spread cX11_spread 8 (some .int) 4 0 0 (qK (q_rb b) Q) 22 [(2, 0), (0, v), (0, 0), (0, 0), (0, (-1)), (0, 0), (0, 0), (4, 0)] [] (q_sh0, q_rb b, mem))
    (l2 : ¬ (0 ≤ v ∧ v < 7) → Q (-1) mem) :
    q_At yX11_spread cX11_spread 8 (some .int) 4 0 0 (qK (q_rb b) Q) 0 [(2, 0), (0, v), (4, 0), (4, 0), (4, 0), (4, 0), (4, 0), (4, 0)] [] (q_sh0, q_rb b, mem) := by
  refine q_iload_n dX11_spread_0 rfl rfl ?_
  refine qx_invS [(0, v)] [(0, v)] rfl qM_X11_isOrigin dX11_spread_1 tw603 rfl rfl rfl rfl (spX11_isOrigin) (fun r1 m1 p1 q1 => ?_)
  obtain ⟨p1e, ⟨p1f, p1⟩ | ⟨p1f, p1⟩⟩ := p1
  · rw [p1e, p1f]
    refine qx_if_ne (tgt := 9) dX11_spread_4 (by decide) (fun _ => ?_) (fun z => absurd z (by decide))
    refine qx_iconst dX11_spread_9 rfl rfl ?_
    refine qx_istore_n (L' := [(2, 0), (0, v), (0, 0), (4, 0), (4, 0), (4, 0), (4, 0), (4, 0)]) dX11_spread_10 rfl rfl rfl rfl ?_
    refine qx_iconst dX11_spread_11 rfl rfl ?_
    refine qx_istore_n (L' := [(2, 0), (0, v), (0, 0), (0, 0), (4, 0), (4, 0), (4, 0), (4, 0)]) dX11_spread_12 rfl rfl rfl rfl ?_
    refine qx_iconst dX11_spread_13 rfl rfl ?_
    refine qx_istore (L' := [(2, 0), (0, v), (0, 0), (0, 0), (0, (-1)), (4, 0), (4, 0), (4, 0)]) dX11_spread_14 rfl rfl rfl ?_
    refine qx_iconst dX11_spread_16 rfl rfl ?_
    refine qx_istore (L' := [(2, 0), (0, v), (0, 0), (0, 0), (0, (-1)), (0, 0), (4, 0), (4, 0)]) dX11_spread_17 rfl rfl rfl ?_
    refine qx_iconst dX11_spread_19 rfl rfl ?_
    refine qx_istore (L' := [(2, 0), (0, v), (0, 0), (0, 0), (0, (-1)), (0, 0), (0, 0), (4, 0)]) dX11_spread_20 rfl rfl rfl ?_
    exact l1 p1
  · rw [p1e, p1f]
    refine qx_if_ne (tgt := 9) dX11_spread_4 (by decide) (fun z => absurd z (by decide)) (fun _ => ?_)
    refine qx_iconst dX11_spread_7 rfl rfl ?_
    exact q_iret dX11_spread_8 (qK_i (l2 p1))
theorem bkX11_spread_22 {b : Int} {mem : qm} {Q : Int → qm → Prop}
    {v v2 v3 v4 v5 v6 : Int}
    (l1 : (mem 1 3) ≤ v6 → v2 ≤ 0 → Q v2 (q_up mem 0 16 0))
    (o2 : (mem 1 3) ≤ v6 → 0 < v2 → (0 ≤ (0 : Int) ∧ (0 : Int) < 10) ∧ (0 ≤ ((0 : Int) + 1) ∧ ((0 : Int) + 1) < 10) ∧ (0 ≤ (((0 : Int) + 1) + 1) ∧ (((0 : Int) + 1) + 1) < 10))
    (l3 : (mem 1 3) ≤ v6 → 0 < v2 → Q v2 (q_up (q_up (q_up (q_up (q_up (q_up (q_up mem 0 16 0) 169 (0 : Int) v4) 0 16 ((0 : Int) + 1)) 169 ((0 : Int) + 1) v3) 0 16 (((0 : Int) + 1) + 1)) 169 (((0 : Int) + 1) + 1) v5) 0 16 ((((0 : Int) + 1) + 1) + 1)))
    (o4 : v6 < (mem 1 3) → (0 ≤ v6 ∧ v6 < 9))
    {P7 : Int → qm → Prop}
    (l5 : v6 < (mem 1 3) → q_Ev yX7_dropsFrom cX7_dropsFrom 6 (some .int) 3 0 0 [(2, 5), (0, v), (0, v6), (0, (mem 8 v6))] (q_sh0, q_rb b, mem) (qK (q_rb b) (P7)))
    (o6 : v6 < (mem 1 3) → ∀ (r7 : Int), ∀ (m7 : qm), P7 r7 m7 → q_in32 r7 → q_in32 (v2 + r7))
    (o7 : v6 < (mem 1 3) → ∀ (r7 : Int), ∀ (m7 : qm), P7 r7 m7 → q_in32 r7 → r7 ≤ 0 → r7 ≤ v3 → q_in32 (v6 + 1))
    (l8 : v6 < (mem 1 3) → ∀ (r7 : Int), ∀ (m7 : qm), P7 r7 m7 → q_in32 r7 → r7 ≤ 0 → r7 ≤ v3 → q_At yX11_spread cX11_spread 8 (some .int) 4 0 0 (qK (q_rb b) Q) 22 [(2, 0), (0, v), (0, (v2 + r7)), (0, v3), (0, v4), (0, (q_oior v5 0)), (0, (v6 + 1)), (4, 0)] [] (q_sh0, q_rb b, m7))
    (o9 : v6 < (mem 1 3) → ∀ (r7 : Int), ∀ (m7 : qm), P7 r7 m7 → q_in32 r7 → r7 ≤ 0 → v3 < r7 → q_in32 (v6 + 1))
    (l10 : v6 < (mem 1 3) → ∀ (r7 : Int), ∀ (m7 : qm), P7 r7 m7 → q_in32 r7 → r7 ≤ 0 → v3 < r7 → q_At yX11_spread cX11_spread 8 (some .int) 4 0 0 (qK (q_rb b) Q) 22 [(2, 0), (0, v), (0, (v2 + r7)), (0, r7), (0, v6), (0, (q_oior v5 0)), (0, (v6 + 1)), (4, 0)] [] (q_sh0, q_rb b, m7))
    (o11 : v6 < (mem 1 3) → ∀ (r7 : Int), ∀ (m7 : qm), P7 r7 m7 → q_in32 r7 → 0 < r7 → r7 ≤ v3 → q_in32 (v6 + 1))
    (l12 : v6 < (mem 1 3) → ∀ (r7 : Int), ∀ (m7 : qm), P7 r7 m7 → q_in32 r7 → 0 < r7 → r7 ≤ v3 → q_At yX11_spread cX11_spread 8 (some .int) 4 0 0 (qK (q_rb b) Q) 22 [(2, 0), (0, v), (0, (v2 + r7)), (0, v3), (0, v4), (0, (q_oior v5 (q_oishl 1 v6))), (0, (v6 + 1)), (4, 0)] [] (q_sh0, q_rb b, m7))
    (o13 : v6 < (mem 1 3) → ∀ (r7 : Int), ∀ (m7 : qm), P7 r7 m7 → q_in32 r7 → 0 < r7 → v3 < r7 → q_in32 (v6 + 1))
    (l14 : v6 < (mem 1 3) → ∀ (r7 : Int), ∀ (m7 : qm), P7 r7 m7 → q_in32 r7 → 0 < r7 → v3 < r7 → q_At yX11_spread cX11_spread 8 (some .int) 4 0 0 (qK (q_rb b) Q) 22 [(2, 0), (0, v), (0, (v2 + r7)), (0, r7), (0, v6), (0, (q_oior v5 (q_oishl 1 v6))), (0, (v6 + 1)), (4, 0)] [] (q_sh0, q_rb b, m7)) :
    q_At yX11_spread cX11_spread 8 (some .int) 4 0 0 (qK (q_rb b) Q) 22 [(2, 0), (0, v), (0, v2), (0, v3), (0, v4), (0, v5), (0, v6), (4, 0)] [] (q_sh0, q_rb b, mem) := by
  refine q_iload dX11_spread_22 rfl ?_
  refine q_aload_n dX11_spread_24 rfl rfl ?_
  refine q_getR (ci := 11) (k := 0) dX11_spread_25 rfl (by decide) rfl tw349 (by decide) qs0 qw0_0 (by decide) ?_
  refine qx_getI (ci := 9) (k := 3) (v := (mem 1 3)) dX11_spread_28 rfl rfl rfl tw53 rfl qs1 rfl ?_
  refine qx_icmp_ge (tgt := 98) dX11_spread_31 (by decide) (fun c1 => ?_) (fun c1 => ?_)
  · skip
    refine q_aload_n dX11_spread_98 rfl rfl ?_
    refine qx_invV (ci := 11) [] [(2, 0)] rfl qM_X11_clearRow dX11_spread_99 tw691 rfl qs0 rfl rfl rfl rfl (spX11_clearRow) (fun r2 m2 p2 q2 => ?_)
    obtain rfl := p2
    refine q_iload_n dX11_spread_102 rfl rfl ?_
    refine qx_if_le (tgt := 123) dX11_spread_103 (by decide) (fun c3 => ?_) (fun c3 => ?_)
    · skip
      refine q_iload_n dX11_spread_123 rfl rfl ?_
      exact q_iret dX11_spread_124 (qK_i (l1 c1 c3))
    · skip
      refine q_aload_n dX11_spread_106 rfl rfl ?_
      refine q_iload dX11_spread_107 rfl ?_
      refine qx_invV (ci := 11) [(0, v4)] [(0, v4), (2, 0)] rfl qM_X11_tell dX11_spread_109 tw699 rfl qs0 rfl rfl rfl rfl (spX11_tell (by first | exact (o2 c1 c3).1 | (simp only [q_up, Int.reduceEq, false_and, true_and, and_true, and_false, ite_false, ite_true, if_true, if_false]; exact (o2 c1 c3).1))) (fun r4 m4 p4 q4 => ?_)
      obtain rfl := p4
      refine q_aload_n dX11_spread_112 rfl rfl ?_
      refine q_iload_n dX11_spread_113 rfl rfl ?_
      refine qx_invV (ci := 11) [(0, v3)] [(0, v3), (2, 0)] rfl qM_X11_tell dX11_spread_114 tw699 rfl qs0 rfl rfl rfl rfl (spX11_tell (by first | exact (o2 c1 c3).2.1 | (simp only [q_up, Int.reduceEq, false_and, true_and, and_true, and_false, ite_false, ite_true, if_true, if_false]; exact (o2 c1 c3).2.1))) (fun r5 m5 p5 q5 => ?_)
      obtain rfl := p5
      refine q_aload_n dX11_spread_117 rfl rfl ?_
      refine q_iload dX11_spread_118 rfl ?_
      refine qx_invV (ci := 11) [(0, v5)] [(0, v5), (2, 0)] rfl qM_X11_tell dX11_spread_120 tw699 rfl qs0 rfl rfl rfl rfl (spX11_tell (by first | exact (o2 c1 c3).2.2 | (simp only [q_up, Int.reduceEq, false_and, true_and, and_true, and_false, ite_false, ite_true, if_true, if_false]; exact (o2 c1 c3).2.2))) (fun r6 m6 p6 q6 => ?_)
      obtain rfl := p6
      refine q_iload_n dX11_spread_123 rfl rfl ?_
      exact q_iret dX11_spread_124 (qK_i (l3 c1 c3))
  · skip
    refine q_aload_n dX11_spread_34 rfl rfl ?_
    refine q_getR (ci := 11) (k := 1) dX11_spread_35 rfl (by decide) rfl tw350 (by decide) qs0 qw0_1 (by decide) ?_
    refine q_iload_n dX11_spread_38 rfl rfl ?_
    refine q_iload dX11_spread_39 rfl ?_
    refine q_aload_n dX11_spread_41 rfl rfl ?_
    refine q_getR (ci := 11) (k := 1) dX11_spread_42 rfl (by decide) rfl tw350 (by decide) qs0 qw0_1 (by decide) ?_
    refine q_getR (ci := 7) (k := 2) dX11_spread_45 rfl (by decide) rfl tw77 (by decide) qs5 qw5_2 (by decide) ?_
    refine q_iload dX11_spread_48 rfl ?_
    refine qx_iald (v := (mem 8 v6)) dX11_spread_50 qs8 (o4 c1) rfl ?_
    refine qx_invV (ci := 7) [(0, v), (0, v6), (0, (mem 8 v6))] [(0, (mem 8 v6)), (0, v6), (0, v), (2, 5)] rfl qM_X7_dropsFrom dX11_spread_51 tw969 rfl qs5 rfl rfl rfl rfl (l5 c1) (fun r7 m7 p7 q7 => ?_)
    refine qx_istore (L' := [(2, 0), (0, v), (0, v2), (0, v3), (0, v4), (0, v5), (0, v6), (0, r7)]) dX11_spread_54 rfl rfl rfl ?_
    refine q_iload_n dX11_spread_56 rfl rfl ?_
    refine q_iload dX11_spread_57 rfl ?_
    refine qx_iadd dX11_spread_59 (o6 c1 r7 m7 p7 q7) ?_
    refine qx_istore_n (L' := [(2, 0), (0, v), (0, (v2 + r7)), (0, v3), (0, v4), (0, v5), (0, v6), (0, r7)]) dX11_spread_60 rfl rfl rfl rfl ?_
    refine q_iload dX11_spread_61 rfl ?_
    refine q_iload dX11_spread_63 rfl ?_
    refine qx_if_le (tgt := 75) dX11_spread_65 (by decide) (fun c8 => ?_) (fun c8 => ?_)
    · skip
      refine qx_iconst dX11_spread_75 rfl rfl ?_
      refine q_ior dX11_spread_76 ?_
      refine qx_istore (L' := [(2, 0), (0, v), (0, (v2 + r7)), (0, v3), (0, v4), (0, (q_oior v5 0)), (0, v6), (0, r7)]) dX11_spread_77 rfl rfl rfl ?_
      refine q_iload dX11_spread_79 rfl ?_
      refine q_iload_n dX11_spread_81 rfl rfl ?_
      refine qx_icmp_le (tgt := 92) dX11_spread_82 (by decide) (fun c9 => ?_) (fun c9 => ?_)
      · skip
        refine qx_iinc (L' := [(2, 0), (0, v), (0, (v2 + r7)), (0, v3), (0, v4), (0, (q_oior v5 0)), (0, (v6 + 1)), (0, r7)]) dX11_spread_92 rfl rfl rfl (o7 c1 r7 m7 p7 q7 c8 c9) rfl ?_
        refine q_goto (tgt := 22) dX11_spread_95 (by decide) ?_
        refine q_kill (L' := [(2, 0), (0, v), (0, (v2 + r7)), (0, v3), (0, v4), (0, (q_oior v5 0)), (0, (v6 + 1)), (4, 0)]) 7 rfl ?_
        exact l8 c1 r7 m7 p7 q7 c8 c9
      · skip
        refine q_iload dX11_spread_85 rfl ?_
        refine qx_istore_n (L' := [(2, 0), (0, v), (0, (v2 + r7)), (0, r7), (0, v4), (0, (q_oior v5 0)), (0, v6), (0, r7)]) dX11_spread_87 rfl rfl rfl rfl ?_
        refine q_iload dX11_spread_88 rfl ?_
        refine qx_istore (L' := [(2, 0), (0, v), (0, (v2 + r7)), (0, r7), (0, v6), (0, (q_oior v5 0)), (0, v6), (0, r7)]) dX11_spread_90 rfl rfl rfl ?_
        refine qx_iinc (L' := [(2, 0), (0, v), (0, (v2 + r7)), (0, r7), (0, v6), (0, (q_oior v5 0)), (0, (v6 + 1)), (0, r7)]) dX11_spread_92 rfl rfl rfl (o9 c1 r7 m7 p7 q7 c8 c9) rfl ?_
        refine q_goto (tgt := 22) dX11_spread_95 (by decide) ?_
        refine q_kill (L' := [(2, 0), (0, v), (0, (v2 + r7)), (0, r7), (0, v6), (0, (q_oior v5 0)), (0, (v6 + 1)), (4, 0)]) 7 rfl ?_
        exact l10 c1 r7 m7 p7 q7 c8 c9
    · skip
      refine qx_iconst dX11_spread_68 rfl rfl ?_
      refine q_iload dX11_spread_69 rfl ?_
      refine q_ishl dX11_spread_71 ?_
      refine q_goto (tgt := 76) dX11_spread_72 (by decide) ?_
      refine q_ior dX11_spread_76 ?_
      refine qx_istore (L' := [(2, 0), (0, v), (0, (v2 + r7)), (0, v3), (0, v4), (0, (q_oior v5 (q_oishl 1 v6))), (0, v6), (0, r7)]) dX11_spread_77 rfl rfl rfl ?_
      refine q_iload dX11_spread_79 rfl ?_
      refine q_iload_n dX11_spread_81 rfl rfl ?_
      refine qx_icmp_le (tgt := 92) dX11_spread_82 (by decide) (fun c10 => ?_) (fun c10 => ?_)
      · skip
        refine qx_iinc (L' := [(2, 0), (0, v), (0, (v2 + r7)), (0, v3), (0, v4), (0, (q_oior v5 (q_oishl 1 v6))), (0, (v6 + 1)), (0, r7)]) dX11_spread_92 rfl rfl rfl (o11 c1 r7 m7 p7 q7 c8 c10) rfl ?_
        refine q_goto (tgt := 22) dX11_spread_95 (by decide) ?_
        refine q_kill (L' := [(2, 0), (0, v), (0, (v2 + r7)), (0, v3), (0, v4), (0, (q_oior v5 (q_oishl 1 v6))), (0, (v6 + 1)), (4, 0)]) 7 rfl ?_
        exact l12 c1 r7 m7 p7 q7 c8 c10
      · skip
        refine q_iload dX11_spread_85 rfl ?_
        refine qx_istore_n (L' := [(2, 0), (0, v), (0, (v2 + r7)), (0, r7), (0, v4), (0, (q_oior v5 (q_oishl 1 v6))), (0, v6), (0, r7)]) dX11_spread_87 rfl rfl rfl rfl ?_
        refine q_iload dX11_spread_88 rfl ?_
        refine qx_istore (L' := [(2, 0), (0, v), (0, (v2 + r7)), (0, r7), (0, v6), (0, (q_oior v5 (q_oishl 1 v6))), (0, v6), (0, r7)]) dX11_spread_90 rfl rfl rfl ?_
        refine qx_iinc (L' := [(2, 0), (0, v), (0, (v2 + r7)), (0, r7), (0, v6), (0, (q_oior v5 (q_oishl 1 v6))), (0, (v6 + 1)), (0, r7)]) dX11_spread_92 rfl rfl rfl (o13 c1 r7 m7 p7 q7 c8 c10) rfl ?_
        refine q_goto (tgt := 22) dX11_spread_95 (by decide) ?_
        refine q_kill (L' := [(2, 0), (0, v), (0, (v2 + r7)), (0, r7), (0, v6), (0, (q_oior v5 (q_oishl 1 v6))), (0, (v6 + 1)), (4, 0)]) 7 rfl ?_
        exact l14 c1 r7 m7 p7 q7 c8 c10
theorem dX11_spring_0 : decode cX11_spring 0 = .ok (.aload_n 0, 1) := by decide +kernel
theorem dX11_spring_1 : decode cX11_spring 1 = .ok (.iload_n 1, 1) := by decide +kernel
theorem dX11_spring_2 : decode cX11_spring 2 = .ok (.invokevirtual 131, 3) := by decide +kernel
theorem dX11_spring_5 : decode cX11_spring 5 = .ok (.ifCond .eq 21, 3) := by decide +kernel
theorem dX11_spring_8 : decode cX11_spring 8 = .ok (.iload_n 2, 1) := by decide +kernel
theorem dX11_spring_9 : decode cX11_spring 9 = .ok (.invokestatic 188, 3) := by decide +kernel
theorem dX11_spring_12 : decode cX11_spring 12 = .ok (.ifCond .eq 14, 3) := by decide +kernel
theorem dX11_spring_15 : decode cX11_spring 15 = .ok (.iload_n 3, 1) := by decide +kernel
theorem dX11_spring_16 : decode cX11_spring 16 = .ok (.iconst 1, 1) := by decide +kernel
theorem dX11_spring_17 : decode cX11_spring 17 = .ok (.if_icmp .lt 9, 3) := by decide +kernel
theorem dX11_spring_20 : decode cX11_spring 20 = .ok (.iload_n 3, 1) := by decide +kernel
theorem dX11_spring_21 : decode cX11_spring 21 = .ok (.bipush 60, 2) := by decide +kernel
theorem dX11_spring_23 : decode cX11_spring 23 = .ok (.if_icmp .le 5, 3) := by decide +kernel
theorem dX11_spring_26 : decode cX11_spring 26 = .ok (.iconst (-1), 1) := by decide +kernel
theorem dX11_spring_27 : decode cX11_spring 27 = .ok (.ireturn, 1) := by decide +kernel
theorem dX11_spring_28 : decode cX11_spring 28 = .ok (.aload_n 0, 1) := by decide +kernel
theorem dX11_spring_29 : decode cX11_spring 29 = .ok (.getfield 45, 3) := by decide +kernel
theorem dX11_spring_32 : decode cX11_spring 32 = .ok (.aload_n 0, 1) := by decide +kernel
theorem dX11_spring_33 : decode cX11_spring 33 = .ok (.getfield 19, 3) := by decide +kernel
theorem dX11_spring_36 : decode cX11_spring 36 = .ok (.invokevirtual 191, 3) := by decide +kernel
theorem dX11_spring_39 : decode cX11_spring 39 = .ok (.iload_n 3, 1) := by decide +kernel
theorem dX11_spring_40 : decode cX11_spring 40 = .ok (.aload_n 0, 1) := by decide +kernel
theorem dX11_spring_41 : decode cX11_spring 41 = .ok (.iload_n 1, 1) := by decide +kernel
theorem dX11_spring_42 : decode cX11_spring 42 = .ok (.invokevirtual 195, 3) := by decide +kernel
theorem dX11_spring_45 : decode cX11_spring 45 = .ok (.invokestatic 180, 3) := by decide +kernel
theorem dX11_spring_48 : decode cX11_spring 48 = .ok (.istore 4, 2) := by decide +kernel
theorem dX11_spring_50 : decode cX11_spring 50 = .ok (.iconst 0, 1) := by decide +kernel
theorem dX11_spring_51 : decode cX11_spring 51 = .ok (.istore 5, 2) := by decide +kernel
theorem dX11_spring_53 : decode cX11_spring 53 = .ok (.iload 5, 2) := by decide +kernel
theorem dX11_spring_55 : decode cX11_spring 55 = .ok (.iload 4, 2) := by decide +kernel
theorem dX11_spring_57 : decode cX11_spring 57 = .ok (.if_icmp .ge 18, 3) := by decide +kernel
theorem dX11_spring_60 : decode cX11_spring 60 = .ok (.aload_n 0, 1) := by decide +kernel
theorem dX11_spring_61 : decode cX11_spring 61 = .ok (.getfield 19, 3) := by decide +kernel
theorem dX11_spring_64 : decode cX11_spring 64 = .ok (.iload_n 1, 1) := by decide +kernel
theorem dX11_spring_65 : decode cX11_spring 65 = .ok (.iload_n 2, 1) := by decide +kernel
theorem dX11_spring_66 : decode cX11_spring 66 = .ok (.invokevirtual 198, 3) := by decide +kernel
theorem dX11_spring_69 : decode cX11_spring 69 = .ok (.iinc 5 1, 3) := by decide +kernel
theorem dX11_spring_72 : decode cX11_spring 72 = .ok (.goto (-19), 3) := by decide +kernel
theorem dX11_spring_75 : decode cX11_spring 75 = .ok (.iload 4, 2) := by decide +kernel
theorem dX11_spring_77 : decode cX11_spring 77 = .ok (.ireturn, 1) := by decide +kernel
theorem bkX11_spring_0 {b : Int} {mem : qm} {Q : Int → qm → Prop}
    {j v w : Int}
    (l1 : (0 ≤ j ∧ j < (mem 1 3)) → (0 ≤ v ∧ v < 7) → w < 1 → Q (-1) mem)
    {P5 : Int → qm → Prop}
    (l2 : (0 ≤ j ∧ j < (mem 1 3)) → (0 ≤ v ∧ v < 7) → 1 ≤ w → w ≤ 60 → q_Ev yX3_remember cX3_remember 2 none 2 0 0 [(2, 33), (2, 5)] (q_sh0, q_rb b, mem) (qK (q_rb b) (P5)))
    (o3 : (0 ≤ j ∧ j < (mem 1 3)) → (0 ≤ v ∧ v < 7) → 1 ≤ w → w ≤ 60 → ∀ (r5 : Int), ∀ (m5 : qm), P5 r5 m5 → q_in32 r5 → (0 ≤ j ∧ j < 9) ∧ q_in32 ((m5 2 j) - (m5 8 j)))
    (l4 : (0 ≤ j ∧ j < (mem 1 3)) → (0 ≤ v ∧ v < 7) → 1 ≤ w → w ≤ 60 → ∀ (r5 : Int), ∀ (m5 : qm), P5 r5 m5 → q_in32 r5 → q_At yX11_spring cX11_spring 6 (some .int) 3 0 0 (qK (q_rb b) Q) 53 [(2, 0), (0, j), (0, v), (0, w), (0, (min w ((m5 2 j) - (m5 8 j)))), (0, 0)] [] (q_sh0, q_rb b, m5))
    (l5 : (0 ≤ j ∧ j < (mem 1 3)) → (0 ≤ v ∧ v < 7) → 1 ≤ w → 60 < w → Q (-1) mem)
    (l6 : (0 ≤ j ∧ j < (mem 1 3)) → ¬ (0 ≤ v ∧ v < 7) → Q (-1) mem)
    (l7 : ¬ (0 ≤ j ∧ j < (mem 1 3)) → Q (-1) mem) :
    q_At yX11_spring cX11_spring 6 (some .int) 3 0 0 (qK (q_rb b) Q) 0 [(2, 0), (0, j), (0, v), (0, w), (4, 0), (4, 0)] [] (q_sh0, q_rb b, mem) := by
  refine q_aload_n dX11_spring_0 rfl rfl ?_
  refine q_iload_n dX11_spring_1 rfl rfl ?_
  refine qx_invV (ci := 11) [(0, j)] [(0, j), (2, 0)] rfl qM_X11_isJar dX11_spring_2 tw576 rfl qs0 rfl rfl rfl rfl (spX11_isJar) (fun r1 m1 p1 q1 => ?_)
  obtain ⟨p1e, ⟨p1f, p1⟩ | ⟨p1f, p1⟩⟩ := p1
  · rw [p1e, p1f]
    refine qx_if_eq (tgt := 26) dX11_spring_5 (by decide) (fun z => absurd z (by decide)) (fun _ => ?_)
    refine q_iload_n dX11_spring_8 rfl rfl ?_
    refine qx_invS [(0, v)] [(0, v)] rfl qM_X11_isOrigin dX11_spring_9 tw603 rfl rfl rfl rfl (spX11_isOrigin) (fun r2 m2 p2 q2 => ?_)
    obtain ⟨p2e, ⟨p2f, p2⟩ | ⟨p2f, p2⟩⟩ := p2
    · rw [p2e, p2f]
      refine qx_if_eq (tgt := 26) dX11_spring_12 (by decide) (fun z => absurd z (by decide)) (fun _ => ?_)
      refine q_iload_n dX11_spring_15 rfl rfl ?_
      refine qx_iconst dX11_spring_16 rfl rfl ?_
      refine qx_icmp_lt (tgt := 26) dX11_spring_17 (by decide) (fun c3 => ?_) (fun c3 => ?_)
      · skip
        refine qx_iconst dX11_spring_26 rfl rfl ?_
        exact q_iret dX11_spring_27 (qK_i (l1 p1 p2 c3))
      · skip
        refine q_iload_n dX11_spring_20 rfl rfl ?_
        refine qx_bipush dX11_spring_21 rfl rfl ?_
        refine qx_icmp_le (tgt := 28) dX11_spring_23 (by decide) (fun c4 => ?_) (fun c4 => ?_)
        · skip
          refine q_aload_n dX11_spring_28 rfl rfl ?_
          refine q_getR (ci := 11) (k := 5) dX11_spring_29 rfl (by decide) rfl tw354 (by decide) qs0 qw0_5 (by decide) ?_
          refine q_aload_n dX11_spring_32 rfl rfl ?_
          refine q_getR (ci := 11) (k := 1) dX11_spring_33 rfl (by decide) rfl tw350 (by decide) qs0 qw0_1 (by decide) ?_
          refine qx_invV (ci := 3) [(2, 5)] [(2, 5), (2, 33)] rfl qM_X3_remember dX11_spring_36 tw606 rfl qs33 rfl rfl rfl rfl (l2 p1 p2 c3 c4) (fun r5 m5 p5 q5 => ?_)
          refine q_iload_n dX11_spring_39 rfl rfl ?_
          refine q_aload_n dX11_spring_40 rfl rfl ?_
          refine q_iload_n dX11_spring_41 rfl rfl ?_
          refine qx_invV (ci := 11) [(0, j)] [(0, j), (2, 0), (0, w)] rfl qM_X11_roomIn dX11_spring_42 tw616 rfl qs0 rfl rfl rfl rfl (spX11_roomIn (o3 p1 p2 c3 c4 r5 m5 p5 q5)) (fun r6 m6 p6 q6 => ?_)
          obtain ⟨p6e, p6f⟩ := p6
          rw [p6e, p6f]
          refine q_min dX11_spring_45 tw595 tw429 tw15 tw430 (by decide) (Nat.le_of_ble_eq_true rfl) ?_
          refine qx_istore (L' := [(2, 0), (0, j), (0, v), (0, w), (0, (min w ((m5 2 j) - (m5 8 j)))), (4, 0)]) dX11_spring_48 rfl rfl rfl ?_
          refine qx_iconst dX11_spring_50 rfl rfl ?_
          refine qx_istore (L' := [(2, 0), (0, j), (0, v), (0, w), (0, (min w ((m5 2 j) - (m5 8 j)))), (0, 0)]) dX11_spring_51 rfl rfl rfl ?_
          exact l4 p1 p2 c3 c4 r5 m5 p5 q5
        · skip
          refine qx_iconst dX11_spring_26 rfl rfl ?_
          exact q_iret dX11_spring_27 (qK_i (l5 p1 p2 c3 c4))
    · rw [p2e, p2f]
      refine qx_if_eq (tgt := 26) dX11_spring_12 (by decide) (fun _ => ?_) (fun z => absurd z (by decide))
      refine qx_iconst dX11_spring_26 rfl rfl ?_
      exact q_iret dX11_spring_27 (qK_i (l6 p1 p2))
  · rw [p1e, p1f]
    refine qx_if_eq (tgt := 26) dX11_spring_5 (by decide) (fun _ => ?_) (fun z => absurd z (by decide))
    refine qx_iconst dX11_spring_26 rfl rfl ?_
    exact q_iret dX11_spring_27 (qK_i (l7 p1))
theorem bkX11_spring_53 {b : Int} {mem : qm} {Q : Int → qm → Prop}
    {j v w v4 v5 : Int}
    (l1 : v4 ≤ v5 → Q v4 mem)
    {P2 : Int → qm → Prop}
    (l2 : v5 < v4 → q_Ev yX7_putBehind cX7_putBehind 3 none 2 0 0 [(2, 5), (0, j), (0, v)] (q_sh0, q_rb b, mem) (qK (q_rb b) (P2)))
    (o3 : v5 < v4 → ∀ (r2 : Int), ∀ (m2 : qm), P2 r2 m2 → q_in32 r2 → q_in32 (v5 + 1))
    (l4 : v5 < v4 → ∀ (r2 : Int), ∀ (m2 : qm), P2 r2 m2 → q_in32 r2 → q_At yX11_spring cX11_spring 6 (some .int) 3 0 0 (qK (q_rb b) Q) 53 [(2, 0), (0, j), (0, v), (0, w), (0, v4), (0, (v5 + 1))] [] (q_sh0, q_rb b, m2)) :
    q_At yX11_spring cX11_spring 6 (some .int) 3 0 0 (qK (q_rb b) Q) 53 [(2, 0), (0, j), (0, v), (0, w), (0, v4), (0, v5)] [] (q_sh0, q_rb b, mem) := by
  refine q_iload dX11_spring_53 rfl ?_
  refine q_iload dX11_spring_55 rfl ?_
  refine qx_icmp_ge (tgt := 75) dX11_spring_57 (by decide) (fun c1 => ?_) (fun c1 => ?_)
  · skip
    refine q_iload dX11_spring_75 rfl ?_
    exact q_iret dX11_spring_77 (qK_i (l1 c1))
  · skip
    refine q_aload_n dX11_spring_60 rfl rfl ?_
    refine q_getR (ci := 11) (k := 1) dX11_spring_61 rfl (by decide) rfl tw350 (by decide) qs0 qw0_1 (by decide) ?_
    refine q_iload_n dX11_spring_64 rfl rfl ?_
    refine q_iload_n dX11_spring_65 rfl rfl ?_
    refine qx_invV (ci := 7) [(0, j), (0, v)] [(0, v), (0, j), (2, 5)] rfl qM_X7_putBehind dX11_spring_66 tw620 rfl qs5 rfl rfl rfl rfl (l2 c1) (fun r2 m2 p2 q2 => ?_)
    refine qx_iinc (L' := [(2, 0), (0, j), (0, v), (0, w), (0, v4), (0, (v5 + 1))]) dX11_spring_69 rfl rfl rfl (o3 c1 r2 m2 p2 q2) rfl ?_
    refine q_goto (tgt := 53) dX11_spring_72 (by decide) ?_
    exact l4 c1 r2 m2 p2 q2
theorem dX11_emptyJars_0 : decode cX11_emptyJars 0 = .ok (.iconst 0, 1) := by decide +kernel
theorem dX11_emptyJars_1 : decode cX11_emptyJars 1 = .ok (.istore_n 1, 1) := by decide +kernel
theorem dX11_emptyJars_2 : decode cX11_emptyJars 2 = .ok (.iconst 0, 1) := by decide +kernel
theorem dX11_emptyJars_3 : decode cX11_emptyJars 3 = .ok (.istore_n 2, 1) := by decide +kernel
theorem dX11_emptyJars_4 : decode cX11_emptyJars 4 = .ok (.iload_n 2, 1) := by decide +kernel
theorem dX11_emptyJars_5 : decode cX11_emptyJars 5 = .ok (.aload_n 0, 1) := by decide +kernel
theorem dX11_emptyJars_6 : decode cX11_emptyJars 6 = .ok (.getfield 10, 3) := by decide +kernel
theorem dX11_emptyJars_9 : decode cX11_emptyJars 9 = .ok (.getfield 173, 3) := by decide +kernel
theorem dX11_emptyJars_12 : decode cX11_emptyJars 12 = .ok (.if_icmp .ge 29, 3) := by decide +kernel
theorem dX11_emptyJars_15 : decode cX11_emptyJars 15 = .ok (.iload_n 1, 1) := by decide +kernel
theorem dX11_emptyJars_16 : decode cX11_emptyJars 16 = .ok (.aload_n 0, 1) := by decide +kernel
theorem dX11_emptyJars_17 : decode cX11_emptyJars 17 = .ok (.getfield 19, 3) := by decide +kernel
theorem dX11_emptyJars_20 : decode cX11_emptyJars 20 = .ok (.getfield 142, 3) := by decide +kernel
theorem dX11_emptyJars_23 : decode cX11_emptyJars 23 = .ok (.iload_n 2, 1) := by decide +kernel
theorem dX11_emptyJars_24 : decode cX11_emptyJars 24 = .ok (.iaload, 1) := by decide +kernel
theorem dX11_emptyJars_25 : decode cX11_emptyJars 25 = .ok (.ifCond .ne 7, 3) := by decide +kernel
theorem dX11_emptyJars_28 : decode cX11_emptyJars 28 = .ok (.iconst 1, 1) := by decide +kernel
theorem dX11_emptyJars_29 : decode cX11_emptyJars 29 = .ok (.goto 4, 3) := by decide +kernel
theorem dX11_emptyJars_32 : decode cX11_emptyJars 32 = .ok (.iconst 0, 1) := by decide +kernel
theorem dX11_emptyJars_33 : decode cX11_emptyJars 33 = .ok (.iadd, 1) := by decide +kernel
theorem dX11_emptyJars_34 : decode cX11_emptyJars 34 = .ok (.istore_n 1, 1) := by decide +kernel
theorem dX11_emptyJars_35 : decode cX11_emptyJars 35 = .ok (.iinc 2 1, 3) := by decide +kernel
theorem dX11_emptyJars_38 : decode cX11_emptyJars 38 = .ok (.goto (-34), 3) := by decide +kernel
theorem dX11_emptyJars_41 : decode cX11_emptyJars 41 = .ok (.iload_n 1, 1) := by decide +kernel
theorem dX11_emptyJars_42 : decode cX11_emptyJars 42 = .ok (.ireturn, 1) := by decide +kernel
theorem bkX11_emptyJars_0 {b : Int} {mem : qm} {Q : Int → qm → Prop}
    (l1 : q_At yX11_emptyJars cX11_emptyJars 3 (some .int) 1 0 0 (qK (q_rb b) Q) 4 [(2, 0), (0, 0), (0, 0)] [] (q_sh0, q_rb b, mem)) :
    q_At yX11_emptyJars cX11_emptyJars 3 (some .int) 1 0 0 (qK (q_rb b) Q) 0 [(2, 0), (4, 0), (4, 0)] [] (q_sh0, q_rb b, mem) := by
  refine qx_iconst dX11_emptyJars_0 rfl rfl ?_
  refine qx_istore_n (L' := [(2, 0), (0, 0), (4, 0)]) dX11_emptyJars_1 rfl rfl rfl rfl ?_
  refine qx_iconst dX11_emptyJars_2 rfl rfl ?_
  refine qx_istore_n (L' := [(2, 0), (0, 0), (0, 0)]) dX11_emptyJars_3 rfl rfl rfl rfl ?_
  exact l1
theorem bkX11_emptyJars_4 {b : Int} {mem : qm} {Q : Int → qm → Prop}
    {v1 v2 : Int}
    (l1 : (mem 1 3) ≤ v2 → Q v1 mem)
    (o2 : v2 < (mem 1 3) → (0 ≤ v2 ∧ v2 < 9))
    (o3 : v2 < (mem 1 3) → (mem 8 v2) ≠ 0 → q_in32 (v1 + 0) ∧ q_in32 (v2 + 1))
    (l4 : v2 < (mem 1 3) → (mem 8 v2) ≠ 0 → q_At yX11_emptyJars cX11_emptyJars 3 (some .int) 1 0 0 (qK (q_rb b) Q) 4 [(2, 0), (0, (v1 + 0)), (0, (v2 + 1))] [] (q_sh0, q_rb b, mem))
    (o5 : v2 < (mem 1 3) → (mem 8 v2) = 0 → q_in32 (v1 + 1) ∧ q_in32 (v2 + 1))
    (l6 : v2 < (mem 1 3) → (mem 8 v2) = 0 → q_At yX11_emptyJars cX11_emptyJars 3 (some .int) 1 0 0 (qK (q_rb b) Q) 4 [(2, 0), (0, (v1 + 1)), (0, (v2 + 1))] [] (q_sh0, q_rb b, mem)) :
    q_At yX11_emptyJars cX11_emptyJars 3 (some .int) 1 0 0 (qK (q_rb b) Q) 4 [(2, 0), (0, v1), (0, v2)] [] (q_sh0, q_rb b, mem) := by
  refine q_iload_n dX11_emptyJars_4 rfl rfl ?_
  refine q_aload_n dX11_emptyJars_5 rfl rfl ?_
  refine q_getR (ci := 11) (k := 0) dX11_emptyJars_6 rfl (by decide) rfl tw349 (by decide) qs0 qw0_0 (by decide) ?_
  refine qx_getI (ci := 9) (k := 3) (v := (mem 1 3)) dX11_emptyJars_9 rfl rfl rfl tw53 rfl qs1 rfl ?_
  refine qx_icmp_ge (tgt := 41) dX11_emptyJars_12 (by decide) (fun c1 => ?_) (fun c1 => ?_)
  · skip
    refine q_iload_n dX11_emptyJars_41 rfl rfl ?_
    exact q_iret dX11_emptyJars_42 (qK_i (l1 c1))
  · skip
    refine q_iload_n dX11_emptyJars_15 rfl rfl ?_
    refine q_aload_n dX11_emptyJars_16 rfl rfl ?_
    refine q_getR (ci := 11) (k := 1) dX11_emptyJars_17 rfl (by decide) rfl tw350 (by decide) qs0 qw0_1 (by decide) ?_
    refine q_getR (ci := 7) (k := 2) dX11_emptyJars_20 rfl (by decide) rfl tw77 (by decide) qs5 qw5_2 (by decide) ?_
    refine q_iload_n dX11_emptyJars_23 rfl rfl ?_
    refine qx_iald (v := (mem 8 v2)) dX11_emptyJars_24 qs8 (o2 c1) rfl ?_
    refine qx_if_ne (tgt := 32) dX11_emptyJars_25 (by decide) (fun c2 => ?_) (fun c2 => ?_)
    · skip
      refine qx_iconst dX11_emptyJars_32 rfl rfl ?_
      refine qx_iadd dX11_emptyJars_33 (o3 c1 c2).1 ?_
      refine qx_istore_n (L' := [(2, 0), (0, (v1 + 0)), (0, v2)]) dX11_emptyJars_34 rfl rfl rfl rfl ?_
      refine qx_iinc (L' := [(2, 0), (0, (v1 + 0)), (0, (v2 + 1))]) dX11_emptyJars_35 rfl rfl rfl (o3 c1 c2).2 rfl ?_
      refine q_goto (tgt := 4) dX11_emptyJars_38 (by decide) ?_
      exact l4 c1 c2
    · skip
      refine qx_iconst dX11_emptyJars_28 rfl rfl ?_
      refine q_goto (tgt := 33) dX11_emptyJars_29 (by decide) ?_
      refine qx_iadd dX11_emptyJars_33 (o5 c1 c2).1 ?_
      refine qx_istore_n (L' := [(2, 0), (0, (v1 + 1)), (0, v2)]) dX11_emptyJars_34 rfl rfl rfl rfl ?_
      refine qx_iinc (L' := [(2, 0), (0, (v1 + 1)), (0, (v2 + 1))]) dX11_emptyJars_35 rfl rfl rfl (o5 c1 c2).2 rfl ?_
      refine q_goto (tgt := 4) dX11_emptyJars_38 (by decide) ?_
      exact l6 c1 c2
theorem dX11_levelsInAll_0 : decode cX11_levelsInAll 0 = .ok (.iconst 0, 1) := by decide +kernel
theorem dX11_levelsInAll_1 : decode cX11_levelsInAll 1 = .ok (.istore_n 1, 1) := by decide +kernel
theorem dX11_levelsInAll_2 : decode cX11_levelsInAll 2 = .ok (.iconst 0, 1) := by decide +kernel
theorem dX11_levelsInAll_3 : decode cX11_levelsInAll 3 = .ok (.istore_n 2, 1) := by decide +kernel
theorem dX11_levelsInAll_4 : decode cX11_levelsInAll 4 = .ok (.iload_n 2, 1) := by decide +kernel
theorem dX11_levelsInAll_5 : decode cX11_levelsInAll 5 = .ok (.aload_n 0, 1) := by decide +kernel
theorem dX11_levelsInAll_6 : decode cX11_levelsInAll 6 = .ok (.getfield 10, 3) := by decide +kernel
theorem dX11_levelsInAll_9 : decode cX11_levelsInAll 9 = .ok (.getfield 173, 3) := by decide +kernel
theorem dX11_levelsInAll_12 : decode cX11_levelsInAll 12 = .ok (.if_icmp .ge 21, 3) := by decide +kernel
theorem dX11_levelsInAll_15 : decode cX11_levelsInAll 15 = .ok (.iload_n 1, 1) := by decide +kernel
theorem dX11_levelsInAll_16 : decode cX11_levelsInAll 16 = .ok (.aload_n 0, 1) := by decide +kernel
theorem dX11_levelsInAll_17 : decode cX11_levelsInAll 17 = .ok (.getfield 19, 3) := by decide +kernel
theorem dX11_levelsInAll_20 : decode cX11_levelsInAll 20 = .ok (.getfield 142, 3) := by decide +kernel
theorem dX11_levelsInAll_23 : decode cX11_levelsInAll 23 = .ok (.iload_n 2, 1) := by decide +kernel
theorem dX11_levelsInAll_24 : decode cX11_levelsInAll 24 = .ok (.iaload, 1) := by decide +kernel
theorem dX11_levelsInAll_25 : decode cX11_levelsInAll 25 = .ok (.iadd, 1) := by decide +kernel
theorem dX11_levelsInAll_26 : decode cX11_levelsInAll 26 = .ok (.istore_n 1, 1) := by decide +kernel
theorem dX11_levelsInAll_27 : decode cX11_levelsInAll 27 = .ok (.iinc 2 1, 3) := by decide +kernel
theorem dX11_levelsInAll_30 : decode cX11_levelsInAll 30 = .ok (.goto (-26), 3) := by decide +kernel
theorem dX11_levelsInAll_33 : decode cX11_levelsInAll 33 = .ok (.iload_n 1, 1) := by decide +kernel
theorem dX11_levelsInAll_34 : decode cX11_levelsInAll 34 = .ok (.ireturn, 1) := by decide +kernel
theorem bkX11_levelsInAll_0 {b : Int} {mem : qm} {Q : Int → qm → Prop}
    (l1 : q_At yX11_levelsInAll cX11_levelsInAll 3 (some .int) 1 0 0 (qK (q_rb b) Q) 4 [(2, 0), (0, 0), (0, 0)] [] (q_sh0, q_rb b, mem)) :
    q_At yX11_levelsInAll cX11_levelsInAll 3 (some .int) 1 0 0 (qK (q_rb b) Q) 0 [(2, 0), (4, 0), (4, 0)] [] (q_sh0, q_rb b, mem) := by
  refine qx_iconst dX11_levelsInAll_0 rfl rfl ?_
  refine qx_istore_n (L' := [(2, 0), (0, 0), (4, 0)]) dX11_levelsInAll_1 rfl rfl rfl rfl ?_
  refine qx_iconst dX11_levelsInAll_2 rfl rfl ?_
  refine qx_istore_n (L' := [(2, 0), (0, 0), (0, 0)]) dX11_levelsInAll_3 rfl rfl rfl rfl ?_
  exact l1
theorem bkX11_levelsInAll_4 {b : Int} {mem : qm} {Q : Int → qm → Prop}
    {v1 v2 : Int}
    (l1 : (mem 1 3) ≤ v2 → Q v1 mem)
    (o2 : v2 < (mem 1 3) → (0 ≤ v2 ∧ v2 < 9) ∧ q_in32 (v1 + (mem 8 v2)) ∧ q_in32 (v2 + 1))
    (l3 : v2 < (mem 1 3) → q_At yX11_levelsInAll cX11_levelsInAll 3 (some .int) 1 0 0 (qK (q_rb b) Q) 4 [(2, 0), (0, (v1 + (mem 8 v2))), (0, (v2 + 1))] [] (q_sh0, q_rb b, mem)) :
    q_At yX11_levelsInAll cX11_levelsInAll 3 (some .int) 1 0 0 (qK (q_rb b) Q) 4 [(2, 0), (0, v1), (0, v2)] [] (q_sh0, q_rb b, mem) := by
  refine q_iload_n dX11_levelsInAll_4 rfl rfl ?_
  refine q_aload_n dX11_levelsInAll_5 rfl rfl ?_
  refine q_getR (ci := 11) (k := 0) dX11_levelsInAll_6 rfl (by decide) rfl tw349 (by decide) qs0 qw0_0 (by decide) ?_
  refine qx_getI (ci := 9) (k := 3) (v := (mem 1 3)) dX11_levelsInAll_9 rfl rfl rfl tw53 rfl qs1 rfl ?_
  refine qx_icmp_ge (tgt := 33) dX11_levelsInAll_12 (by decide) (fun c1 => ?_) (fun c1 => ?_)
  · skip
    refine q_iload_n dX11_levelsInAll_33 rfl rfl ?_
    exact q_iret dX11_levelsInAll_34 (qK_i (l1 c1))
  · skip
    refine q_iload_n dX11_levelsInAll_15 rfl rfl ?_
    refine q_aload_n dX11_levelsInAll_16 rfl rfl ?_
    refine q_getR (ci := 11) (k := 1) dX11_levelsInAll_17 rfl (by decide) rfl tw350 (by decide) qs0 qw0_1 (by decide) ?_
    refine q_getR (ci := 7) (k := 2) dX11_levelsInAll_20 rfl (by decide) rfl tw77 (by decide) qs5 qw5_2 (by decide) ?_
    refine q_iload_n dX11_levelsInAll_23 rfl rfl ?_
    refine qx_iald (v := (mem 8 v2)) dX11_levelsInAll_24 qs8 (o2 c1).1 rfl ?_
    refine qx_iadd dX11_levelsInAll_25 (o2 c1).2.1 ?_
    refine qx_istore_n (L' := [(2, 0), (0, (v1 + (mem 8 v2))), (0, v2)]) dX11_levelsInAll_26 rfl rfl rfl rfl ?_
    refine qx_iinc (L' := [(2, 0), (0, (v1 + (mem 8 v2))), (0, (v2 + 1))]) dX11_levelsInAll_27 rfl rfl rfl (o2 c1).2.2 rfl ?_
    refine q_goto (tgt := 4) dX11_levelsInAll_30 (by decide) ?_
    exact l3 c1
theorem dX11_canPour_0 : decode cX11_canPour 0 = .ok (.aload_n 0, 1) := by decide +kernel
theorem dX11_canPour_1 : decode cX11_canPour 1 = .ok (.iload_n 2, 1) := by decide +kernel
theorem dX11_canPour_2 : decode cX11_canPour 2 = .ok (.invokevirtual 131, 3) := by decide +kernel
theorem dX11_canPour_5 : decode cX11_canPour 5 = .ok (.ifCond .eq 22, 3) := by decide +kernel
theorem dX11_canPour_8 : decode cX11_canPour 8 = .ok (.aload_n 0, 1) := by decide +kernel
theorem dX11_canPour_9 : decode cX11_canPour 9 = .ok (.iload_n 3, 1) := by decide +kernel
theorem dX11_canPour_10 : decode cX11_canPour 10 = .ok (.invokevirtual 131, 3) := by decide +kernel
theorem dX11_canPour_13 : decode cX11_canPour 13 = .ok (.ifCond .eq 14, 3) := by decide +kernel
theorem dX11_canPour_16 : decode cX11_canPour 16 = .ok (.iload_n 2, 1) := by decide +kernel
theorem dX11_canPour_17 : decode cX11_canPour 17 = .ok (.iload_n 3, 1) := by decide +kernel
theorem dX11_canPour_18 : decode cX11_canPour 18 = .ok (.if_icmp .eq 9, 3) := by decide +kernel
theorem dX11_canPour_21 : decode cX11_canPour 21 = .ok (.iload 4, 2) := by decide +kernel
theorem dX11_canPour_23 : decode cX11_canPour 23 = .ok (.iconst 1, 1) := by decide +kernel
theorem dX11_canPour_24 : decode cX11_canPour 24 = .ok (.if_icmp .ge 5, 3) := by decide +kernel
theorem dX11_canPour_27 : decode cX11_canPour 27 = .ok (.iconst (-1), 1) := by decide +kernel
theorem dX11_canPour_28 : decode cX11_canPour 28 = .ok (.ireturn, 1) := by decide +kernel
theorem dX11_canPour_29 : decode cX11_canPour 29 = .ok (.aload_n 1, 1) := by decide +kernel
theorem dX11_canPour_30 : decode cX11_canPour 30 = .ok (.getfield 142, 3) := by decide +kernel
theorem dX11_canPour_33 : decode cX11_canPour 33 = .ok (.iload_n 2, 1) := by decide +kernel
theorem dX11_canPour_34 : decode cX11_canPour 34 = .ok (.iaload, 1) := by decide +kernel
theorem dX11_canPour_35 : decode cX11_canPour 35 = .ok (.iload 4, 2) := by decide +kernel
theorem dX11_canPour_37 : decode cX11_canPour 37 = .ok (.if_icmp .ge 6, 3) := by decide +kernel
theorem dX11_canPour_40 : decode cX11_canPour 40 = .ok (.bipush (-2), 2) := by decide +kernel
theorem dX11_canPour_42 : decode cX11_canPour 42 = .ok (.ireturn, 1) := by decide +kernel
theorem dX11_canPour_43 : decode cX11_canPour 43 = .ok (.aload_n 0, 1) := by decide +kernel
theorem dX11_canPour_44 : decode cX11_canPour 44 = .ok (.getfield 10, 3) := by decide +kernel
theorem dX11_canPour_47 : decode cX11_canPour 47 = .ok (.getfield 145, 3) := by decide +kernel
theorem dX11_canPour_50 : decode cX11_canPour 50 = .ok (.iload_n 3, 1) := by decide +kernel
theorem dX11_canPour_51 : decode cX11_canPour 51 = .ok (.iaload, 1) := by decide +kernel
theorem dX11_canPour_52 : decode cX11_canPour 52 = .ok (.aload_n 1, 1) := by decide +kernel
theorem dX11_canPour_53 : decode cX11_canPour 53 = .ok (.getfield 142, 3) := by decide +kernel
theorem dX11_canPour_56 : decode cX11_canPour 56 = .ok (.iload_n 3, 1) := by decide +kernel
theorem dX11_canPour_57 : decode cX11_canPour 57 = .ok (.iaload, 1) := by decide +kernel
theorem dX11_canPour_58 : decode cX11_canPour 58 = .ok (.isub, 1) := by decide +kernel
theorem dX11_canPour_59 : decode cX11_canPour 59 = .ok (.iload 4, 2) := by decide +kernel
theorem dX11_canPour_61 : decode cX11_canPour 61 = .ok (.if_icmp .ge 8, 3) := by decide +kernel
theorem dX11_canPour_64 : decode cX11_canPour 64 = .ok (.bipush (-3), 2) := by decide +kernel
theorem dX11_canPour_66 : decode cX11_canPour 66 = .ok (.goto 5, 3) := by decide +kernel
theorem dX11_canPour_69 : decode cX11_canPour 69 = .ok (.iload 4, 2) := by decide +kernel
theorem dX11_canPour_71 : decode cX11_canPour 71 = .ok (.ireturn, 1) := by decide +kernel
theorem bkX11_canPour_0 {b : Int} {mem : qm} {Q : Int → qm → Prop}
    {x y w s : Int}
    (hs : q_st s)
    (l1 : (0 ≤ x ∧ x < (mem 1 3)) → (0 ≤ y ∧ y < (mem 1 3)) → x = y → Q (-1) mem)
    (o2 : (0 ≤ x ∧ x < (mem 1 3)) → (0 ≤ y ∧ y < (mem 1 3)) → x ≠ y → 1 ≤ w → (0 ≤ x ∧ x < 9))
    (o3 : (0 ≤ x ∧ x < (mem 1 3)) → (0 ≤ y ∧ y < (mem 1 3)) → x ≠ y → 1 ≤ w → w ≤ (mem (s + 3) x) → (0 ≤ y ∧ y < 9) ∧ q_in32 ((mem 2 y) - (mem (s + 3) y)))
    (l4 : (0 ≤ x ∧ x < (mem 1 3)) → (0 ≤ y ∧ y < (mem 1 3)) → x ≠ y → 1 ≤ w → w ≤ (mem (s + 3) x) → w ≤ ((mem 2 y) - (mem (s + 3) y)) → Q w mem)
    (l5 : (0 ≤ x ∧ x < (mem 1 3)) → (0 ≤ y ∧ y < (mem 1 3)) → x ≠ y → 1 ≤ w → w ≤ (mem (s + 3) x) → ((mem 2 y) - (mem (s + 3) y)) < w → Q (-3) mem)
    (l6 : (0 ≤ x ∧ x < (mem 1 3)) → (0 ≤ y ∧ y < (mem 1 3)) → x ≠ y → 1 ≤ w → (mem (s + 3) x) < w → Q (-2) mem)
    (l7 : (0 ≤ x ∧ x < (mem 1 3)) → (0 ≤ y ∧ y < (mem 1 3)) → x ≠ y → w < 1 → Q (-1) mem)
    (l8 : (0 ≤ x ∧ x < (mem 1 3)) → ¬ (0 ≤ y ∧ y < (mem 1 3)) → Q (-1) mem)
    (l9 : ¬ (0 ≤ x ∧ x < (mem 1 3)) → Q (-1) mem) :
    q_At yX11_canPour cX11_canPour 5 (some .int) 2 0 0 (qK (q_rb b) Q) 0 [(2, 0), (2, s), (0, x), (0, y), (0, w)] [] (q_sh0, q_rb b, mem) := by
  refine q_aload_n dX11_canPour_0 rfl rfl ?_
  refine q_iload_n dX11_canPour_1 rfl rfl ?_
  refine qx_invV (ci := 11) [(0, x)] [(0, x), (2, 0)] rfl qM_X11_isJar dX11_canPour_2 tw576 rfl qs0 rfl rfl rfl rfl (spX11_isJar) (fun r1 m1 p1 q1 => ?_)
  obtain ⟨p1e, ⟨p1f, p1⟩ | ⟨p1f, p1⟩⟩ := p1
  · rw [p1e, p1f]
    refine qx_if_eq (tgt := 27) dX11_canPour_5 (by decide) (fun z => absurd z (by decide)) (fun _ => ?_)
    refine q_aload_n dX11_canPour_8 rfl rfl ?_
    refine q_iload_n dX11_canPour_9 rfl rfl ?_
    refine qx_invV (ci := 11) [(0, y)] [(0, y), (2, 0)] rfl qM_X11_isJar dX11_canPour_10 tw576 rfl qs0 rfl rfl rfl rfl (spX11_isJar) (fun r2 m2 p2 q2 => ?_)
    obtain ⟨p2e, ⟨p2f, p2⟩ | ⟨p2f, p2⟩⟩ := p2
    · rw [p2e, p2f]
      refine qx_if_eq (tgt := 27) dX11_canPour_13 (by decide) (fun z => absurd z (by decide)) (fun _ => ?_)
      refine q_iload_n dX11_canPour_16 rfl rfl ?_
      refine q_iload_n dX11_canPour_17 rfl rfl ?_
      refine qx_icmp_eq (tgt := 27) dX11_canPour_18 (by decide) (fun c3 => ?_) (fun c3 => ?_)
      · skip
        refine qx_iconst dX11_canPour_27 rfl rfl ?_
        exact q_iret dX11_canPour_28 (qK_i (l1 p1 p2 c3))
      · skip
        refine q_iload dX11_canPour_21 rfl ?_
        refine qx_iconst dX11_canPour_23 rfl rfl ?_
        refine qx_icmp_ge (tgt := 29) dX11_canPour_24 (by decide) (fun c4 => ?_) (fun c4 => ?_)
        · skip
          refine q_aload_n dX11_canPour_29 rfl rfl ?_
          refine q_getR (ci := 7) (k := 2) dX11_canPour_30 rfl (by decide) rfl tw77 (by decide) (qst0 hs) (qsw2 hs) (by have := qst_nn hs; omega) ?_
          refine q_iload_n dX11_canPour_33 rfl rfl ?_
          refine qx_iald (v := (mem (s + 3) x)) dX11_canPour_34 (qst3 hs) (o2 p1 p2 c3 c4) rfl ?_
          refine q_iload dX11_canPour_35 rfl ?_
          refine qx_icmp_ge (tgt := 43) dX11_canPour_37 (by decide) (fun c5 => ?_) (fun c5 => ?_)
          · skip
            refine q_aload_n dX11_canPour_43 rfl rfl ?_
            refine q_getR (ci := 11) (k := 0) dX11_canPour_44 rfl (by decide) rfl tw349 (by decide) qs0 qw0_0 (by decide) ?_
            refine q_getR (ci := 9) (k := 0) dX11_canPour_47 rfl (by decide) rfl tw39 (by decide) qs1 qw1_0 (by decide) ?_
            refine q_iload_n dX11_canPour_50 rfl rfl ?_
            refine qx_iald (v := (mem 2 y)) dX11_canPour_51 qs2 (o3 p1 p2 c3 c4 c5).1 rfl ?_
            refine q_aload_n dX11_canPour_52 rfl rfl ?_
            refine q_getR (ci := 7) (k := 2) dX11_canPour_53 rfl (by decide) rfl tw77 (by decide) (qst0 hs) (qsw2 hs) (by have := qst_nn hs; omega) ?_
            refine q_iload_n dX11_canPour_56 rfl rfl ?_
            refine qx_iald (v := (mem (s + 3) y)) dX11_canPour_57 (qst3 hs) (o3 p1 p2 c3 c4 c5).1 rfl ?_
            refine qx_isub dX11_canPour_58 (o3 p1 p2 c3 c4 c5).2 ?_
            refine q_iload dX11_canPour_59 rfl ?_
            refine qx_icmp_ge (tgt := 69) dX11_canPour_61 (by decide) (fun c6 => ?_) (fun c6 => ?_)
            · skip
              refine q_iload dX11_canPour_69 rfl ?_
              exact q_iret dX11_canPour_71 (qK_i (l4 p1 p2 c3 c4 c5 c6))
            · skip
              refine qx_bipush dX11_canPour_64 rfl rfl ?_
              refine q_goto (tgt := 71) dX11_canPour_66 (by decide) ?_
              exact q_iret dX11_canPour_71 (qK_i (l5 p1 p2 c3 c4 c5 c6))
          · skip
            refine qx_bipush dX11_canPour_40 rfl rfl ?_
            exact q_iret dX11_canPour_42 (qK_i (l6 p1 p2 c3 c4 c5))
        · skip
          refine qx_iconst dX11_canPour_27 rfl rfl ?_
          exact q_iret dX11_canPour_28 (qK_i (l7 p1 p2 c3 c4))
    · rw [p2e, p2f]
      refine qx_if_eq (tgt := 27) dX11_canPour_13 (by decide) (fun _ => ?_) (fun z => absurd z (by decide))
      refine qx_iconst dX11_canPour_27 rfl rfl ?_
      exact q_iret dX11_canPour_28 (qK_i (l8 p1 p2))
  · rw [p1e, p1f]
    refine qx_if_eq (tgt := 27) dX11_canPour_5 (by decide) (fun _ => ?_) (fun z => absurd z (by decide))
    refine qx_iconst dX11_canPour_27 rfl rfl ?_
    exact q_iret dX11_canPour_28 (qK_i (l9 p1))
theorem dX11_makePouring_0 : decode cX11_makePouring 0 = .ok (.iconst 0, 1) := by decide +kernel
theorem dX11_makePouring_1 : decode cX11_makePouring 1 = .ok (.istore 5, 2) := by decide +kernel
theorem dX11_makePouring_3 : decode cX11_makePouring 3 = .ok (.iload 5, 2) := by decide +kernel
theorem dX11_makePouring_5 : decode cX11_makePouring 5 = .ok (.iload 4, 2) := by decide +kernel
theorem dX11_makePouring_7 : decode cX11_makePouring 7 = .ok (.if_icmp .ge 19, 3) := by decide +kernel
theorem dX11_makePouring_10 : decode cX11_makePouring 10 = .ok (.aload_n 1, 1) := by decide +kernel
theorem dX11_makePouring_11 : decode cX11_makePouring 11 = .ok (.iload_n 3, 1) := by decide +kernel
theorem dX11_makePouring_12 : decode cX11_makePouring 12 = .ok (.aload_n 1, 1) := by decide +kernel
theorem dX11_makePouring_13 : decode cX11_makePouring 13 = .ok (.iload_n 2, 1) := by decide +kernel
theorem dX11_makePouring_14 : decode cX11_makePouring 14 = .ok (.invokevirtual 419, 3) := by decide +kernel
theorem dX11_makePouring_17 : decode cX11_makePouring 17 = .ok (.invokevirtual 198, 3) := by decide +kernel
theorem dX11_makePouring_20 : decode cX11_makePouring 20 = .ok (.iinc 5 1, 3) := by decide +kernel
theorem dX11_makePouring_23 : decode cX11_makePouring 23 = .ok (.goto (-20), 3) := by decide +kernel
theorem dX11_makePouring_26 : decode cX11_makePouring 26 = .ok (.aload_n 0, 1) := by decide +kernel
theorem dX11_makePouring_27 : decode cX11_makePouring 27 = .ok (.getfield 10, 3) := by decide +kernel
theorem dX11_makePouring_30 : decode cX11_makePouring 30 = .ok (.getfield 151, 3) := by decide +kernel
theorem dX11_makePouring_33 : decode cX11_makePouring 33 = .ok (.iload_n 2, 1) := by decide +kernel
theorem dX11_makePouring_34 : decode cX11_makePouring 34 = .ok (.iaload, 1) := by decide +kernel
theorem dX11_makePouring_35 : decode cX11_makePouring 35 = .ok (.bipush 6, 2) := by decide +kernel
theorem dX11_makePouring_37 : decode cX11_makePouring 37 = .ok (.imul, 1) := by decide +kernel
theorem dX11_makePouring_38 : decode cX11_makePouring 38 = .ok (.aload_n 0, 1) := by decide +kernel
theorem dX11_makePouring_39 : decode cX11_makePouring 39 = .ok (.getfield 10, 3) := by decide +kernel
theorem dX11_makePouring_42 : decode cX11_makePouring 42 = .ok (.getfield 151, 3) := by decide +kernel
theorem dX11_makePouring_45 : decode cX11_makePouring 45 = .ok (.iload_n 3, 1) := by decide +kernel
theorem dX11_makePouring_46 : decode cX11_makePouring 46 = .ok (.iaload, 1) := by decide +kernel
theorem dX11_makePouring_47 : decode cX11_makePouring 47 = .ok (.iadd, 1) := by decide +kernel
theorem dX11_makePouring_48 : decode cX11_makePouring 48 = .ok (.istore 5, 2) := by decide +kernel
theorem dX11_makePouring_50 : decode cX11_makePouring 50 = .ok (.aload_n 1, 1) := by decide +kernel
theorem dX11_makePouring_51 : decode cX11_makePouring 51 = .ok (.getfield 279, 3) := by decide +kernel
theorem dX11_makePouring_54 : decode cX11_makePouring 54 = .ok (.iload 5, 2) := by decide +kernel
theorem dX11_makePouring_56 : decode cX11_makePouring 56 = .ok (.iconst 0, 1) := by decide +kernel
theorem dX11_makePouring_57 : decode cX11_makePouring 57 = .ok (.aload_n 1, 1) := by decide +kernel
theorem dX11_makePouring_58 : decode cX11_makePouring 58 = .ok (.getfield 279, 3) := by decide +kernel
theorem dX11_makePouring_61 : decode cX11_makePouring 61 = .ok (.iload 5, 2) := by decide +kernel
theorem dX11_makePouring_63 : decode cX11_makePouring 63 = .ok (.iaload, 1) := by decide +kernel
theorem dX11_makePouring_64 : decode cX11_makePouring 64 = .ok (.iload 4, 2) := by decide +kernel
theorem dX11_makePouring_66 : decode cX11_makePouring 66 = .ok (.isub, 1) := by decide +kernel
theorem dX11_makePouring_67 : decode cX11_makePouring 67 = .ok (.invokestatic 185, 3) := by decide +kernel
theorem dX11_makePouring_70 : decode cX11_makePouring 70 = .ok (.iastore, 1) := by decide +kernel
theorem dX11_makePouring_71 : decode cX11_makePouring 71 = .ok (.return_, 1) := by decide +kernel
theorem bkX11_makePouring_0 {b : Int} {mem : qm} {Q : Int → qm → Prop}
    {x y w s : Int}
    (hs : q_st s)
    (l1 : q_At yX11_makePouring cX11_makePouring 6 none 3 0 0 (qK (q_rb b) Q) 3 [(2, 0), (2, s), (0, x), (0, y), (0, w), (0, 0)] [] (q_sh0, q_rb b, mem)) :
    q_At yX11_makePouring cX11_makePouring 6 none 3 0 0 (qK (q_rb b) Q) 0 [(2, 0), (2, s), (0, x), (0, y), (0, w), (4, 0)] [] (q_sh0, q_rb b, mem) := by
  refine qx_iconst dX11_makePouring_0 rfl rfl ?_
  refine qx_istore (L' := [(2, 0), (2, s), (0, x), (0, y), (0, w), (0, 0)]) dX11_makePouring_1 rfl rfl rfl ?_
  exact l1
theorem bkX11_makePouring_3 {b : Int} {mem : qm} {Q : Int → qm → Prop}
    {x y w v5 s : Int}
    (hs : q_st s)
    (o1 : w ≤ v5 → (0 ≤ x ∧ x < 9) ∧ q_in32 ((mem 3 x) * 6) ∧ (0 ≤ y ∧ y < 9) ∧ q_in32 (((mem 3 x) * 6) + (mem 3 y)) ∧ (0 ≤ (((mem 3 x) * 6) + (mem 3 y)) ∧ (((mem 3 x) * 6) + (mem 3 y)) < 36) ∧ q_in32 ((mem (s + 7) (((mem 3 x) * 6) + (mem 3 y))) - w))
    (l2 : w ≤ v5 → Q 0 (q_up mem (s + 7) (((mem 3 x) * 6) + (mem 3 y)) (max 0 ((mem (s + 7) (((mem 3 x) * 6) + (mem 3 y))) - w))))
    {P2 : Int → qm → Prop}
    (l3 : v5 < w → q_Ev yX7_takeOldest cX7_takeOldest 3 (some .int) 2 0 0 [(2, s), (0, x)] (q_sh0, q_rb b, mem) (qK (q_rb b) (P2)))
    {P3 : Int → qm → Int → qm → Prop}
    (l4 : v5 < w → ∀ (r2 : Int), ∀ (m2 : qm), P2 r2 m2 → q_in32 r2 → q_Ev yX7_putBehind cX7_putBehind 3 none 2 0 0 [(2, s), (0, y), (0, r2)] (q_sh0, q_rb b, m2) (qK (q_rb b) (P3 r2 m2)))
    (o5 : v5 < w → ∀ (r2 : Int), ∀ (m2 : qm), P2 r2 m2 → q_in32 r2 → ∀ (r3 : Int), ∀ (m3 : qm), P3 r2 m2 r3 m3 → q_in32 r3 → q_in32 (v5 + 1))
    (l6 : v5 < w → ∀ (r2 : Int), ∀ (m2 : qm), P2 r2 m2 → q_in32 r2 → ∀ (r3 : Int), ∀ (m3 : qm), P3 r2 m2 r3 m3 → q_in32 r3 → q_At yX11_makePouring cX11_makePouring 6 none 3 0 0 (qK (q_rb b) Q) 3 [(2, 0), (2, s), (0, x), (0, y), (0, w), (0, (v5 + 1))] [] (q_sh0, q_rb b, m3)) :
    q_At yX11_makePouring cX11_makePouring 6 none 3 0 0 (qK (q_rb b) Q) 3 [(2, 0), (2, s), (0, x), (0, y), (0, w), (0, v5)] [] (q_sh0, q_rb b, mem) := by
  refine q_iload dX11_makePouring_3 rfl ?_
  refine q_iload dX11_makePouring_5 rfl ?_
  refine qx_icmp_ge (tgt := 26) dX11_makePouring_7 (by decide) (fun c1 => ?_) (fun c1 => ?_)
  · skip
    refine q_aload_n dX11_makePouring_26 rfl rfl ?_
    refine q_getR (ci := 11) (k := 0) dX11_makePouring_27 rfl (by decide) rfl tw349 (by decide) qs0 qw0_0 (by decide) ?_
    refine q_getR (ci := 9) (k := 1) dX11_makePouring_30 rfl (by decide) rfl tw43 (by decide) qs1 qw1_1 (by decide) ?_
    refine q_iload_n dX11_makePouring_33 rfl rfl ?_
    refine qx_iald (v := (mem 3 x)) dX11_makePouring_34 qs3 (o1 c1).1 rfl ?_
    refine qx_bipush dX11_makePouring_35 rfl rfl ?_
    refine qx_imul dX11_makePouring_37 (o1 c1).2.1 ?_
    refine q_aload_n dX11_makePouring_38 rfl rfl ?_
    refine q_getR (ci := 11) (k := 0) dX11_makePouring_39 rfl (by decide) rfl tw349 (by decide) qs0 qw0_0 (by decide) ?_
    refine q_getR (ci := 9) (k := 1) dX11_makePouring_42 rfl (by decide) rfl tw43 (by decide) qs1 qw1_1 (by decide) ?_
    refine q_iload_n dX11_makePouring_45 rfl rfl ?_
    refine qx_iald (v := (mem 3 y)) dX11_makePouring_46 qs3 (o1 c1).2.2.1 rfl ?_
    refine qx_iadd dX11_makePouring_47 (o1 c1).2.2.2.1 ?_
    refine qx_istore (L' := [(2, 0), (2, s), (0, x), (0, y), (0, w), (0, (((mem 3 x) * 6) + (mem 3 y)))]) dX11_makePouring_48 rfl rfl rfl ?_
    refine q_aload_n dX11_makePouring_50 rfl rfl ?_
    refine q_getR (ci := 7) (k := 6) dX11_makePouring_51 rfl (by decide) rfl tw97 (by decide) (qst0 hs) (qsw6 hs) (by have := qst_nn hs; omega) ?_
    refine q_iload dX11_makePouring_54 rfl ?_
    refine qx_iconst dX11_makePouring_56 rfl rfl ?_
    refine q_aload_n dX11_makePouring_57 rfl rfl ?_
    refine q_getR (ci := 7) (k := 6) dX11_makePouring_58 rfl (by decide) rfl tw97 (by decide) (qst0 hs) (qsw6 hs) (by have := qst_nn hs; omega) ?_
    refine q_iload dX11_makePouring_61 rfl ?_
    refine qx_iald (v := (mem (s + 7) (((mem 3 x) * 6) + (mem 3 y)))) dX11_makePouring_63 (qst7 hs) (o1 c1).2.2.2.2.1 rfl ?_
    refine q_iload dX11_makePouring_64 rfl ?_
    refine qx_isub dX11_makePouring_66 (o1 c1).2.2.2.2.2 ?_
    refine q_max dX11_makePouring_67 tw596 tw597 tw15 tw598 (by decide) (Nat.le_of_ble_eq_true rfl) ?_
    refine q_iast dX11_makePouring_70 (qst7 hs) ((o1 c1).2.2.2.2.1).1 ((o1 c1).2.2.2.2.1).2 ?_
    exact q_vret dX11_makePouring_71 (qK_i (l2 c1))
  · skip
    refine q_aload_n dX11_makePouring_10 rfl rfl ?_
    refine q_iload_n dX11_makePouring_11 rfl rfl ?_
    refine q_aload_n dX11_makePouring_12 rfl rfl ?_
    refine q_iload_n dX11_makePouring_13 rfl rfl ?_
    refine qx_invV (ci := 7) [(0, x)] [(0, x), (2, s), (0, y), (2, s)] rfl qM_X7_takeOldest dX11_makePouring_14 tw633 rfl (qst0 hs) rfl rfl rfl rfl (l3 c1) (fun r2 m2 p2 q2 => ?_)
    refine qx_invV (ci := 7) [(0, y), (0, r2)] [(0, r2), (0, y), (2, s)] rfl qM_X7_putBehind dX11_makePouring_17 tw620 rfl (qst0 hs) rfl rfl rfl rfl (l4 c1 r2 m2 p2 q2) (fun r3 m3 p3 q3 => ?_)
    refine qx_iinc (L' := [(2, 0), (2, s), (0, x), (0, y), (0, w), (0, (v5 + 1))]) dX11_makePouring_20 rfl rfl rfl (o5 c1 r2 m2 p2 q2 r3 m3 p3 q3) rfl ?_
    refine q_goto (tgt := 3) dX11_makePouring_23 (by decide) ?_
    exact l6 c1 r2 m2 p2 q2 r3 m3 p3 q3
theorem dX11_pour_0 : decode cX11_pour 0 = .ok (.aload_n 0, 1) := by decide +kernel
theorem dX11_pour_1 : decode cX11_pour 1 = .ok (.aload_n 0, 1) := by decide +kernel
theorem dX11_pour_2 : decode cX11_pour 2 = .ok (.getfield 19, 3) := by decide +kernel
theorem dX11_pour_5 : decode cX11_pour 5 = .ok (.iload_n 1, 1) := by decide +kernel
theorem dX11_pour_6 : decode cX11_pour 6 = .ok (.iload_n 2, 1) := by decide +kernel
theorem dX11_pour_7 : decode cX11_pour 7 = .ok (.iload_n 3, 1) := by decide +kernel
theorem dX11_pour_8 : decode cX11_pour 8 = .ok (.invokevirtual 202, 3) := by decide +kernel
theorem dX11_pour_11 : decode cX11_pour 11 = .ok (.istore 4, 2) := by decide +kernel
theorem dX11_pour_13 : decode cX11_pour 13 = .ok (.iload 4, 2) := by decide +kernel
theorem dX11_pour_15 : decode cX11_pour 15 = .ok (.ifCond .le 25, 3) := by decide +kernel
theorem dX11_pour_18 : decode cX11_pour 18 = .ok (.aload_n 0, 1) := by decide +kernel
theorem dX11_pour_19 : decode cX11_pour 19 = .ok (.getfield 45, 3) := by decide +kernel
theorem dX11_pour_22 : decode cX11_pour 22 = .ok (.aload_n 0, 1) := by decide +kernel
theorem dX11_pour_23 : decode cX11_pour 23 = .ok (.getfield 19, 3) := by decide +kernel
theorem dX11_pour_26 : decode cX11_pour 26 = .ok (.invokevirtual 191, 3) := by decide +kernel
theorem dX11_pour_29 : decode cX11_pour 29 = .ok (.aload_n 0, 1) := by decide +kernel
theorem dX11_pour_30 : decode cX11_pour 30 = .ok (.aload_n 0, 1) := by decide +kernel
theorem dX11_pour_31 : decode cX11_pour 31 = .ok (.getfield 19, 3) := by decide +kernel
theorem dX11_pour_34 : decode cX11_pour 34 = .ok (.iload_n 1, 1) := by decide +kernel
theorem dX11_pour_35 : decode cX11_pour 35 = .ok (.iload_n 2, 1) := by decide +kernel
theorem dX11_pour_36 : decode cX11_pour 36 = .ok (.iload_n 3, 1) := by decide +kernel
theorem dX11_pour_37 : decode cX11_pour 37 = .ok (.invokevirtual 206, 3) := by decide +kernel
theorem dX11_pour_40 : decode cX11_pour 40 = .ok (.iload 4, 2) := by decide +kernel
theorem dX11_pour_42 : decode cX11_pour 42 = .ok (.ireturn, 1) := by decide +kernel
theorem bkX11_pour_0 {b : Int} {mem : qm} {Q : Int → qm → Prop}
    {x y w : Int}
    {P1 : Int → qm → Prop}
    (l1 : q_Ev yX11_canPour cX11_canPour 5 (some .int) 2 0 0 [(2, 0), (2, 5), (0, x), (0, y), (0, w)] (q_sh0, q_rb b, mem) (qK (q_rb b) (P1)))
    (l2 : ∀ (r1 : Int), ∀ (m1 : qm), P1 r1 m1 → q_in32 r1 → r1 ≤ 0 → Q r1 m1)
    {P3 : Int → qm → Int → qm → Prop}
    (l3 : ∀ (r1 : Int), ∀ (m1 : qm), P1 r1 m1 → q_in32 r1 → 0 < r1 → q_Ev yX3_remember cX3_remember 2 none 2 0 0 [(2, 33), (2, 5)] (q_sh0, q_rb b, m1) (qK (q_rb b) (P3 r1 m1)))
    {P4 : Int → qm → Int → qm → Int → qm → Prop}
    (l4 : ∀ (r1 : Int), ∀ (m1 : qm), P1 r1 m1 → q_in32 r1 → 0 < r1 → ∀ (r3 : Int), ∀ (m3 : qm), P3 r1 m1 r3 m3 → q_in32 r3 → q_Ev yX11_makePouring cX11_makePouring 6 none 3 0 0 [(2, 0), (2, 5), (0, x), (0, y), (0, w)] (q_sh0, q_rb b, m3) (qK (q_rb b) (P4 r1 m1 r3 m3)))
    (l5 : ∀ (r1 : Int), ∀ (m1 : qm), P1 r1 m1 → q_in32 r1 → 0 < r1 → ∀ (r3 : Int), ∀ (m3 : qm), P3 r1 m1 r3 m3 → q_in32 r3 → ∀ (r4 : Int), ∀ (m4 : qm), P4 r1 m1 r3 m3 r4 m4 → q_in32 r4 → Q r1 m4) :
    q_At yX11_pour cX11_pour 5 (some .int) 4 0 0 (qK (q_rb b) Q) 0 [(2, 0), (0, x), (0, y), (0, w), (4, 0)] [] (q_sh0, q_rb b, mem) := by
  refine q_aload_n dX11_pour_0 rfl rfl ?_
  refine q_aload_n dX11_pour_1 rfl rfl ?_
  refine q_getR (ci := 11) (k := 1) dX11_pour_2 rfl (by decide) rfl tw350 (by decide) qs0 qw0_1 (by decide) ?_
  refine q_iload_n dX11_pour_5 rfl rfl ?_
  refine q_iload_n dX11_pour_6 rfl rfl ?_
  refine q_iload_n dX11_pour_7 rfl rfl ?_
  refine qx_invV (ci := 11) [(2, 5), (0, x), (0, y), (0, w)] [(0, w), (0, y), (0, x), (2, 5), (2, 0)] rfl qM_X11_canPour dX11_pour_8 tw625 rfl qs0 rfl rfl rfl rfl (l1) (fun r1 m1 p1 q1 => ?_)
  refine qx_istore (L' := [(2, 0), (0, x), (0, y), (0, w), (0, r1)]) dX11_pour_11 rfl rfl rfl ?_
  refine q_iload dX11_pour_13 rfl ?_
  refine qx_if_le (tgt := 40) dX11_pour_15 (by decide) (fun c2 => ?_) (fun c2 => ?_)
  · skip
    refine q_iload dX11_pour_40 rfl ?_
    exact q_iret dX11_pour_42 (qK_i (l2 r1 m1 p1 q1 c2))
  · skip
    refine q_aload_n dX11_pour_18 rfl rfl ?_
    refine q_getR (ci := 11) (k := 5) dX11_pour_19 rfl (by decide) rfl tw354 (by decide) qs0 qw0_5 (by decide) ?_
    refine q_aload_n dX11_pour_22 rfl rfl ?_
    refine q_getR (ci := 11) (k := 1) dX11_pour_23 rfl (by decide) rfl tw350 (by decide) qs0 qw0_1 (by decide) ?_
    refine qx_invV (ci := 3) [(2, 5)] [(2, 5), (2, 33)] rfl qM_X3_remember dX11_pour_26 tw606 rfl qs33 rfl rfl rfl rfl (l3 r1 m1 p1 q1 c2) (fun r3 m3 p3 q3 => ?_)
    refine q_aload_n dX11_pour_29 rfl rfl ?_
    refine q_aload_n dX11_pour_30 rfl rfl ?_
    refine q_getR (ci := 11) (k := 1) dX11_pour_31 rfl (by decide) rfl tw350 (by decide) qs0 qw0_1 (by decide) ?_
    refine q_iload_n dX11_pour_34 rfl rfl ?_
    refine q_iload_n dX11_pour_35 rfl rfl ?_
    refine q_iload_n dX11_pour_36 rfl rfl ?_
    refine qx_invV (ci := 11) [(2, 5), (0, x), (0, y), (0, w)] [(0, w), (0, y), (0, x), (2, 5), (2, 0)] rfl qM_X11_makePouring dX11_pour_37 tw629 rfl qs0 rfl rfl rfl rfl (l4 r1 m1 p1 q1 c2 r3 m3 p3 q3) (fun r4 m4 p4 q4 => ?_)
    refine q_iload dX11_pour_40 rfl ?_
    exact q_iret dX11_pour_42 (qK_i (l5 r1 m1 p1 q1 c2 r3 m3 p3 q3 r4 m4 p4 q4))
theorem dX11_bells_0 : decode cX11_bells 0 = .ok (.iload_n 1, 1) := by decide +kernel
theorem dX11_bells_1 : decode cX11_bells 1 = .ok (.invokestatic 214, 3) := by decide +kernel
theorem dX11_bells_4 : decode cX11_bells 4 = .ok (.ifCond .ne 5, 3) := by decide +kernel
theorem dX11_bells_7 : decode cX11_bells 7 = .ok (.iconst (-1), 1) := by decide +kernel
theorem dX11_bells_8 : decode cX11_bells 8 = .ok (.ireturn, 1) := by decide +kernel
theorem dX11_bells_9 : decode cX11_bells 9 = .ok (.iload_n 1, 1) := by decide +kernel
theorem dX11_bells_10 : decode cX11_bells 10 = .ok (.ifCond .le 14, 3) := by decide +kernel
theorem dX11_bells_13 : decode cX11_bells 13 = .ok (.aload_n 0, 1) := by decide +kernel
theorem dX11_bells_14 : decode cX11_bells 14 = .ok (.getfield 45, 3) := by decide +kernel
theorem dX11_bells_17 : decode cX11_bells 17 = .ok (.aload_n 0, 1) := by decide +kernel
theorem dX11_bells_18 : decode cX11_bells 18 = .ok (.getfield 19, 3) := by decide +kernel
theorem dX11_bells_21 : decode cX11_bells 21 = .ok (.invokevirtual 191, 3) := by decide +kernel
theorem dX11_bells_24 : decode cX11_bells 24 = .ok (.aload_n 0, 1) := by decide +kernel
theorem dX11_bells_25 : decode cX11_bells 25 = .ok (.getfield 19, 3) := by decide +kernel
theorem dX11_bells_28 : decode cX11_bells 28 = .ok (.invokevirtual 217, 3) := by decide +kernel
theorem dX11_bells_31 : decode cX11_bells 31 = .ok (.istore_n 2, 1) := by decide +kernel
theorem dX11_bells_32 : decode cX11_bells 32 = .ok (.iconst 0, 1) := by decide +kernel
theorem dX11_bells_33 : decode cX11_bells 33 = .ok (.istore_n 3, 1) := by decide +kernel
theorem dX11_bells_34 : decode cX11_bells 34 = .ok (.iload_n 3, 1) := by decide +kernel
theorem dX11_bells_35 : decode cX11_bells 35 = .ok (.iload_n 1, 1) := by decide +kernel
theorem dX11_bells_36 : decode cX11_bells 36 = .ok (.if_icmp .ge 20, 3) := by decide +kernel
theorem dX11_bells_39 : decode cX11_bells 39 = .ok (.aload_n 0, 1) := by decide +kernel
theorem dX11_bells_40 : decode cX11_bells 40 = .ok (.getfield 31, 3) := by decide +kernel
theorem dX11_bells_43 : decode cX11_bells 43 = .ok (.aload_n 0, 1) := by decide +kernel
theorem dX11_bells_44 : decode cX11_bells 44 = .ok (.getfield 19, 3) := by decide +kernel
theorem dX11_bells_47 : decode cX11_bells 47 = .ok (.invokevirtual 220, 3) := by decide +kernel
theorem dX11_bells_50 : decode cX11_bells 50 = .ok (.iinc 3 1, 3) := by decide +kernel
theorem dX11_bells_53 : decode cX11_bells 53 = .ok (.goto (-19), 3) := by decide +kernel
theorem dX11_bells_56 : decode cX11_bells 56 = .ok (.aload_n 0, 1) := by decide +kernel
theorem dX11_bells_57 : decode cX11_bells 57 = .ok (.invokevirtual 223, 3) := by decide +kernel
theorem dX11_bells_60 : decode cX11_bells 60 = .ok (.aload_n 0, 1) := by decide +kernel
theorem dX11_bells_61 : decode cX11_bells 61 = .ok (.aload_n 0, 1) := by decide +kernel
theorem dX11_bells_62 : decode cX11_bells 62 = .ok (.invokevirtual 226, 3) := by decide +kernel
theorem dX11_bells_65 : decode cX11_bells 65 = .ok (.invokevirtual 229, 3) := by decide +kernel
theorem dX11_bells_68 : decode cX11_bells 68 = .ok (.aload_n 0, 1) := by decide +kernel
theorem dX11_bells_69 : decode cX11_bells 69 = .ok (.aload_n 0, 1) := by decide +kernel
theorem dX11_bells_70 : decode cX11_bells 70 = .ok (.invokevirtual 232, 3) := by decide +kernel
theorem dX11_bells_73 : decode cX11_bells 73 = .ok (.invokevirtual 229, 3) := by decide +kernel
theorem dX11_bells_76 : decode cX11_bells 76 = .ok (.aload_n 0, 1) := by decide +kernel
theorem dX11_bells_77 : decode cX11_bells 77 = .ok (.getfield 19, 3) := by decide +kernel
theorem dX11_bells_80 : decode cX11_bells 80 = .ok (.invokevirtual 217, 3) := by decide +kernel
theorem dX11_bells_83 : decode cX11_bells 83 = .ok (.iload_n 2, 1) := by decide +kernel
theorem dX11_bells_84 : decode cX11_bells 84 = .ok (.isub, 1) := by decide +kernel
theorem dX11_bells_85 : decode cX11_bells 85 = .ok (.ireturn, 1) := by decide +kernel
theorem bkX11_bells_0 {b : Int} {mem : qm} {Q : Int → qm → Prop}
    {v : Int}
    {P3 : Int → qm → Prop}
    (l1 : (0 ≤ v ∧ v ≤ 200) → v ≤ 0 → q_Ev yX7_lost cX7_lost 3 (some .int) 1 0 0 [(2, 5)] (q_sh0, q_rb b, mem) (qK (q_rb b) (P3)))
    (l2 : (0 ≤ v ∧ v ≤ 200) → v ≤ 0 → ∀ (r3 : Int), ∀ (m3 : qm), P3 r3 m3 → q_in32 r3 → q_At yX11_bells cX11_bells 4 (some .int) 5 0 0 (qK (q_rb b) Q) 34 [(2, 0), (0, v), (0, r3), (0, 0)] [] (q_sh0, q_rb b, m3))
    {P4 : Int → qm → Prop}
    (l3 : (0 ≤ v ∧ v ≤ 200) → 0 < v → q_Ev yX3_remember cX3_remember 2 none 2 0 0 [(2, 33), (2, 5)] (q_sh0, q_rb b, mem) (qK (q_rb b) (P4)))
    {P5 : Int → qm → Int → qm → Prop}
    (l4 : (0 ≤ v ∧ v ≤ 200) → 0 < v → ∀ (r4 : Int), ∀ (m4 : qm), P4 r4 m4 → q_in32 r4 → q_Ev yX7_lost cX7_lost 3 (some .int) 1 0 0 [(2, 5)] (q_sh0, q_rb b, m4) (qK (q_rb b) (P5 r4 m4)))
    (l5 : (0 ≤ v ∧ v ≤ 200) → 0 < v → ∀ (r4 : Int), ∀ (m4 : qm), P4 r4 m4 → q_in32 r4 → ∀ (r5 : Int), ∀ (m5 : qm), P5 r4 m4 r5 m5 → q_in32 r5 → q_At yX11_bells cX11_bells 4 (some .int) 5 0 0 (qK (q_rb b) Q) 34 [(2, 0), (0, v), (0, r5), (0, 0)] [] (q_sh0, q_rb b, m5))
    (l6 : ¬ (0 ≤ v ∧ v ≤ 200) → Q (-1) mem) :
    q_At yX11_bells cX11_bells 4 (some .int) 5 0 0 (qK (q_rb b) Q) 0 [(2, 0), (0, v), (4, 0), (4, 0)] [] (q_sh0, q_rb b, mem) := by
  refine q_iload_n dX11_bells_0 rfl rfl ?_
  refine qx_invS [(0, v)] [(0, v)] rfl qM_X11_isSpan dX11_bells_1 tw668 rfl rfl rfl rfl (spX11_isSpan) (fun r1 m1 p1 q1 => ?_)
  obtain ⟨p1e, ⟨p1f, p1⟩ | ⟨p1f, p1⟩⟩ := p1
  · rw [p1e, p1f]
    refine qx_if_ne (tgt := 9) dX11_bells_4 (by decide) (fun _ => ?_) (fun z => absurd z (by decide))
    refine q_iload_n dX11_bells_9 rfl rfl ?_
    refine qx_if_le (tgt := 24) dX11_bells_10 (by decide) (fun c2 => ?_) (fun c2 => ?_)
    · skip
      refine q_aload_n dX11_bells_24 rfl rfl ?_
      refine q_getR (ci := 11) (k := 1) dX11_bells_25 rfl (by decide) rfl tw350 (by decide) qs0 qw0_1 (by decide) ?_
      refine qx_invV (ci := 7) [] [(2, 5)] rfl qM_X7_lost dX11_bells_28 tw671 rfl qs5 rfl rfl rfl rfl (l1 p1 c2) (fun r3 m3 p3 q3 => ?_)
      refine qx_istore_n (L' := [(2, 0), (0, v), (0, r3), (4, 0)]) dX11_bells_31 rfl rfl rfl rfl ?_
      refine qx_iconst dX11_bells_32 rfl rfl ?_
      refine qx_istore_n (L' := [(2, 0), (0, v), (0, r3), (0, 0)]) dX11_bells_33 rfl rfl rfl rfl ?_
      exact l2 p1 c2 r3 m3 p3 q3
    · skip
      refine q_aload_n dX11_bells_13 rfl rfl ?_
      refine q_getR (ci := 11) (k := 5) dX11_bells_14 rfl (by decide) rfl tw354 (by decide) qs0 qw0_5 (by decide) ?_
      refine q_aload_n dX11_bells_17 rfl rfl ?_
      refine q_getR (ci := 11) (k := 1) dX11_bells_18 rfl (by decide) rfl tw350 (by decide) qs0 qw0_1 (by decide) ?_
      refine qx_invV (ci := 3) [(2, 5)] [(2, 5), (2, 33)] rfl qM_X3_remember dX11_bells_21 tw606 rfl qs33 rfl rfl rfl rfl (l3 p1 c2) (fun r4 m4 p4 q4 => ?_)
      refine q_aload_n dX11_bells_24 rfl rfl ?_
      refine q_getR (ci := 11) (k := 1) dX11_bells_25 rfl (by decide) rfl tw350 (by decide) qs0 qw0_1 (by decide) ?_
      refine qx_invV (ci := 7) [] [(2, 5)] rfl qM_X7_lost dX11_bells_28 tw671 rfl qs5 rfl rfl rfl rfl (l4 p1 c2 r4 m4 p4 q4) (fun r5 m5 p5 q5 => ?_)
      refine qx_istore_n (L' := [(2, 0), (0, v), (0, r5), (4, 0)]) dX11_bells_31 rfl rfl rfl rfl ?_
      refine qx_iconst dX11_bells_32 rfl rfl ?_
      refine qx_istore_n (L' := [(2, 0), (0, v), (0, r5), (0, 0)]) dX11_bells_33 rfl rfl rfl rfl ?_
      exact l5 p1 c2 r4 m4 p4 q4 r5 m5 p5 q5
  · rw [p1e, p1f]
    refine qx_if_ne (tgt := 9) dX11_bells_4 (by decide) (fun z => absurd z (by decide)) (fun _ => ?_)
    refine qx_iconst dX11_bells_7 rfl rfl ?_
    exact q_iret dX11_bells_8 (qK_i (l6 p1))
theorem bkX11_bells_34 {b : Int} {mem : qm} {Q : Int → qm → Prop}
    {v v2 v3 : Int}
    {P3 : Int → qm → Prop}
    (l1 : v ≤ v3 → q_Ev yX11_emptyJars cX11_emptyJars 3 (some .int) 1 0 0 [(2, 0)] (q_sh0, q_rb b, (q_up mem 0 16 0)) (qK (q_rb b) (P3)))
    (o2 : v ≤ v3 → ∀ (r3 : Int), ∀ (m3 : qm), P3 r3 m3 → q_in32 r3 → (0 ≤ (m3 0 16) ∧ (m3 0 16) < 10))
    {P5 : Int → qm → Int → qm → Prop}
    (l3 : v ≤ v3 → ∀ (r3 : Int), ∀ (m3 : qm), P3 r3 m3 → q_in32 r3 → q_Ev yX11_levelsInAll cX11_levelsInAll 3 (some .int) 1 0 0 [(2, 0)] (q_sh0, q_rb b, (q_up (q_up m3 169 (m3 0 16) r3) 0 16 ((m3 0 16) + 1))) (qK (q_rb b) (P5 r3 m3)))
    (o4 : v ≤ v3 → ∀ (r3 : Int), ∀ (m3 : qm), P3 r3 m3 → q_in32 r3 → ∀ (r5 : Int), ∀ (m5 : qm), P5 r3 m3 r5 m5 → q_in32 r5 → (0 ≤ (m5 0 16) ∧ (m5 0 16) < 10))
    {P7 : Int → qm → Int → qm → Int → qm → Prop}
    (l5 : v ≤ v3 → ∀ (r3 : Int), ∀ (m3 : qm), P3 r3 m3 → q_in32 r3 → ∀ (r5 : Int), ∀ (m5 : qm), P5 r3 m3 r5 m5 → q_in32 r5 → q_Ev yX7_lost cX7_lost 3 (some .int) 1 0 0 [(2, 5)] (q_sh0, q_rb b, (q_up (q_up m5 169 (m5 0 16) r5) 0 16 ((m5 0 16) + 1))) (qK (q_rb b) (P7 r3 m3 r5 m5)))
    (o6 : v ≤ v3 → ∀ (r3 : Int), ∀ (m3 : qm), P3 r3 m3 → q_in32 r3 → ∀ (r5 : Int), ∀ (m5 : qm), P5 r3 m3 r5 m5 → q_in32 r5 → ∀ (r7 : Int), ∀ (m7 : qm), P7 r3 m3 r5 m5 r7 m7 → q_in32 r7 → q_in32 (r7 - v2))
    (l7 : v ≤ v3 → ∀ (r3 : Int), ∀ (m3 : qm), P3 r3 m3 → q_in32 r3 → ∀ (r5 : Int), ∀ (m5 : qm), P5 r3 m3 r5 m5 → q_in32 r5 → ∀ (r7 : Int), ∀ (m7 : qm), P7 r3 m3 r5 m5 r7 m7 → q_in32 r7 → Q (r7 - v2) m7)
    {P8 : Int → qm → Prop}
    (l8 : v3 < v → q_Ev yX0_strike cX0_strike 3 none 4 0 0 [(2, 23), (2, 5)] (q_sh0, q_rb b, mem) (qK (q_rb b) (P8)))
    (o9 : v3 < v → ∀ (r8 : Int), ∀ (m8 : qm), P8 r8 m8 → q_in32 r8 → q_in32 (v3 + 1))
    (l10 : v3 < v → ∀ (r8 : Int), ∀ (m8 : qm), P8 r8 m8 → q_in32 r8 → q_At yX11_bells cX11_bells 4 (some .int) 5 0 0 (qK (q_rb b) Q) 34 [(2, 0), (0, v), (0, v2), (0, (v3 + 1))] [] (q_sh0, q_rb b, m8)) :
    q_At yX11_bells cX11_bells 4 (some .int) 5 0 0 (qK (q_rb b) Q) 34 [(2, 0), (0, v), (0, v2), (0, v3)] [] (q_sh0, q_rb b, mem) := by
  refine q_iload_n dX11_bells_34 rfl rfl ?_
  refine q_iload_n dX11_bells_35 rfl rfl ?_
  refine qx_icmp_ge (tgt := 56) dX11_bells_36 (by decide) (fun c1 => ?_) (fun c1 => ?_)
  · skip
    refine q_aload_n dX11_bells_56 rfl rfl ?_
    refine qx_invV (ci := 11) [] [(2, 0)] rfl qM_X11_clearRow dX11_bells_57 tw691 rfl qs0 rfl rfl rfl rfl (spX11_clearRow) (fun r2 m2 p2 q2 => ?_)
    obtain rfl := p2
    refine q_aload_n dX11_bells_60 rfl rfl ?_
    refine q_aload_n dX11_bells_61 rfl rfl ?_
    refine qx_invV (ci := 11) [] [(2, 0), (2, 0)] rfl qM_X11_emptyJars dX11_bells_62 tw695 rfl qs0 rfl rfl rfl rfl (l1 c1) (fun r3 m3 p3 q3 => ?_)
    refine qx_invV (ci := 11) [(0, r3)] [(0, r3), (2, 0)] rfl qM_X11_tell dX11_bells_65 tw699 rfl qs0 rfl rfl rfl rfl (spX11_tell (o2 c1 r3 m3 p3 q3)) (fun r4 m4 p4 q4 => ?_)
    obtain rfl := p4
    refine q_aload_n dX11_bells_68 rfl rfl ?_
    refine q_aload_n dX11_bells_69 rfl rfl ?_
    refine qx_invV (ci := 11) [] [(2, 0), (2, 0)] rfl qM_X11_levelsInAll dX11_bells_70 tw703 rfl qs0 rfl rfl rfl rfl (l3 c1 r3 m3 p3 q3) (fun r5 m5 p5 q5 => ?_)
    refine qx_invV (ci := 11) [(0, r5)] [(0, r5), (2, 0)] rfl qM_X11_tell dX11_bells_73 tw699 rfl qs0 rfl rfl rfl rfl (spX11_tell (o4 c1 r3 m3 p3 q3 r5 m5 p5 q5)) (fun r6 m6 p6 q6 => ?_)
    obtain rfl := p6
    refine q_aload_n dX11_bells_76 rfl rfl ?_
    refine q_getR (ci := 11) (k := 1) dX11_bells_77 rfl (by decide) rfl tw350 (by decide) qs0 qw0_1 (by decide) ?_
    refine qx_invV (ci := 7) [] [(2, 5)] rfl qM_X7_lost dX11_bells_80 tw671 rfl qs5 rfl rfl rfl rfl (l5 c1 r3 m3 p3 q3 r5 m5 p5 q5) (fun r7 m7 p7 q7 => ?_)
    refine q_iload_n dX11_bells_83 rfl rfl ?_
    refine qx_isub dX11_bells_84 (o6 c1 r3 m3 p3 q3 r5 m5 p5 q5 r7 m7 p7 q7) ?_
    exact q_iret dX11_bells_85 (qK_i (l7 c1 r3 m3 p3 q3 r5 m5 p5 q5 r7 m7 p7 q7))
  · skip
    refine q_aload_n dX11_bells_39 rfl rfl ?_
    refine q_getR (ci := 11) (k := 3) dX11_bells_40 rfl (by decide) rfl tw352 (by decide) qs0 qw0_3 (by decide) ?_
    refine q_aload_n dX11_bells_43 rfl rfl ?_
    refine q_getR (ci := 11) (k := 1) dX11_bells_44 rfl (by decide) rfl tw350 (by decide) qs0 qw0_1 (by decide) ?_
    refine qx_invV (ci := 0) [(2, 5)] [(2, 5), (2, 23)] rfl qM_X0_strike dX11_bells_47 tw675 rfl qs23 rfl rfl rfl rfl (l8 c1) (fun r8 m8 p8 q8 => ?_)
    refine qx_iinc (L' := [(2, 0), (0, v), (0, v2), (0, (v3 + 1))]) dX11_bells_50 rfl rfl rfl (o9 c1 r8 m8 p8 q8) rfl ?_
    refine q_goto (tgt := 34) dX11_bells_53 (by decide) ?_
    exact l10 c1 r8 m8 p8 q8
theorem dX11_undo_0 : decode cX11_undo 0 = .ok (.aload_n 0, 1) := by decide +kernel
theorem dX11_undo_1 : decode cX11_undo 1 = .ok (.getfield 45, 3) := by decide +kernel
theorem dX11_undo_4 : decode cX11_undo 4 = .ok (.getfield 122, 3) := by decide +kernel
theorem dX11_undo_7 : decode cX11_undo 7 = .ok (.ifCond .ne 5, 3) := by decide +kernel
theorem dX11_undo_10 : decode cX11_undo 10 = .ok (.iconst (-1), 1) := by decide +kernel
theorem dX11_undo_11 : decode cX11_undo 11 = .ok (.ireturn, 1) := by decide +kernel
theorem dX11_undo_12 : decode cX11_undo 12 = .ok (.aload_n 0, 1) := by decide +kernel
theorem dX11_undo_13 : decode cX11_undo 13 = .ok (.getfield 45, 3) := by decide +kernel
theorem dX11_undo_16 : decode cX11_undo 16 = .ok (.aload_n 0, 1) := by decide +kernel
theorem dX11_undo_17 : decode cX11_undo 17 = .ok (.getfield 19, 3) := by decide +kernel
theorem dX11_undo_20 : decode cX11_undo 20 = .ok (.invokevirtual 235, 3) := by decide +kernel
theorem dX11_undo_23 : decode cX11_undo 23 = .ok (.aload_n 0, 1) := by decide +kernel
theorem dX11_undo_24 : decode cX11_undo 24 = .ok (.getfield 45, 3) := by decide +kernel
theorem dX11_undo_27 : decode cX11_undo 27 = .ok (.getfield 122, 3) := by decide +kernel
theorem dX11_undo_30 : decode cX11_undo 30 = .ok (.ireturn, 1) := by decide +kernel
theorem bkX11_undo_0 {b : Int} {mem : qm} {Q : Int → qm → Prop}
    {P2 : Int → qm → Prop}
    (l1 : (mem 33 2) ≠ 0 → q_Ev yX3_bringBack cX3_bringBack 2 none 2 0 0 [(2, 33), (2, 5)] (q_sh0, q_rb b, mem) (qK (q_rb b) (P2)))
    (l2 : (mem 33 2) ≠ 0 → ∀ (r2 : Int), ∀ (m2 : qm), P2 r2 m2 → q_in32 r2 → Q (m2 33 2) m2)
    (l3 : (mem 33 2) = 0 → Q (-1) mem) :
    q_At yX11_undo cX11_undo 1 (some .int) 3 0 0 (qK (q_rb b) Q) 0 [(2, 0)] [] (q_sh0, q_rb b, mem) := by
  refine q_aload_n dX11_undo_0 rfl rfl ?_
  refine q_getR (ci := 11) (k := 5) dX11_undo_1 rfl (by decide) rfl tw354 (by decide) qs0 qw0_5 (by decide) ?_
  refine qx_getI (ci := 3) (k := 2) (v := (mem 33 2)) dX11_undo_4 rfl rfl rfl tw195 rfl qs33 rfl ?_
  refine qx_if_ne (tgt := 12) dX11_undo_7 (by decide) (fun c1 => ?_) (fun c1 => ?_)
  · skip
    refine q_aload_n dX11_undo_12 rfl rfl ?_
    refine q_getR (ci := 11) (k := 5) dX11_undo_13 rfl (by decide) rfl tw354 (by decide) qs0 qw0_5 (by decide) ?_
    refine q_aload_n dX11_undo_16 rfl rfl ?_
    refine q_getR (ci := 11) (k := 1) dX11_undo_17 rfl (by decide) rfl tw350 (by decide) qs0 qw0_1 (by decide) ?_
    refine qx_invV (ci := 3) [(2, 5)] [(2, 5), (2, 33)] rfl qM_X3_bringBack dX11_undo_20 tw711 rfl qs33 rfl rfl rfl rfl (l1 c1) (fun r2 m2 p2 q2 => ?_)
    refine q_aload_n dX11_undo_23 rfl rfl ?_
    refine q_getR (ci := 11) (k := 5) dX11_undo_24 rfl (by decide) rfl tw354 (by decide) qs0 qw0_5 (by decide) ?_
    refine qx_getI (ci := 3) (k := 2) (v := (m2 33 2)) dX11_undo_27 rfl rfl rfl tw195 rfl qs33 rfl ?_
    exact q_iret dX11_undo_30 (qK_i (l2 c1 r2 m2 p2 q2))
  · skip
    refine qx_iconst dX11_undo_10 rfl rfl ?_
    exact q_iret dX11_undo_11 (qK_i (l3 c1))
theorem dX11_judgeOne_0 : decode cX11_judgeOne 0 = .ok (.iload_n 1, 1) := by decide +kernel
theorem dX11_judgeOne_1 : decode cX11_judgeOne 1 = .ok (.ifCond .ge 5, 3) := by decide +kernel
theorem dX11_judgeOne_4 : decode cX11_judgeOne 4 = .ok (.iconst (-1), 1) := by decide +kernel
theorem dX11_judgeOne_5 : decode cX11_judgeOne 5 = .ok (.ireturn, 1) := by decide +kernel
theorem dX11_judgeOne_6 : decode cX11_judgeOne 6 = .ok (.iload_n 1, 1) := by decide +kernel
theorem dX11_judgeOne_7 : decode cX11_judgeOne 7 = .ok (.sipush 1000, 3) := by decide +kernel
theorem dX11_judgeOne_10 : decode cX11_judgeOne 10 = .ok (.idiv, 1) := by decide +kernel
theorem dX11_judgeOne_11 : decode cX11_judgeOne 11 = .ok (.istore_n 2, 1) := by decide +kernel
theorem dX11_judgeOne_12 : decode cX11_judgeOne 12 = .ok (.iload_n 1, 1) := by decide +kernel
theorem dX11_judgeOne_13 : decode cX11_judgeOne 13 = .ok (.bipush 100, 2) := by decide +kernel
theorem dX11_judgeOne_15 : decode cX11_judgeOne 15 = .ok (.idiv, 1) := by decide +kernel
theorem dX11_judgeOne_16 : decode cX11_judgeOne 16 = .ok (.bipush 10, 2) := by decide +kernel
theorem dX11_judgeOne_18 : decode cX11_judgeOne 18 = .ok (.irem, 1) := by decide +kernel
theorem dX11_judgeOne_19 : decode cX11_judgeOne 19 = .ok (.istore_n 3, 1) := by decide +kernel
theorem dX11_judgeOne_20 : decode cX11_judgeOne 20 = .ok (.iload_n 1, 1) := by decide +kernel
theorem dX11_judgeOne_21 : decode cX11_judgeOne 21 = .ok (.bipush 100, 2) := by decide +kernel
theorem dX11_judgeOne_23 : decode cX11_judgeOne 23 = .ok (.irem, 1) := by decide +kernel
theorem dX11_judgeOne_24 : decode cX11_judgeOne 24 = .ok (.istore 4, 2) := by decide +kernel
theorem dX11_judgeOne_26 : decode cX11_judgeOne 26 = .ok (.aload_n 0, 1) := by decide +kernel
theorem dX11_judgeOne_27 : decode cX11_judgeOne 27 = .ok (.aload_n 0, 1) := by decide +kernel
theorem dX11_judgeOne_28 : decode cX11_judgeOne 28 = .ok (.getfield 23, 3) := by decide +kernel
theorem dX11_judgeOne_31 : decode cX11_judgeOne 31 = .ok (.iload_n 2, 1) := by decide +kernel
theorem dX11_judgeOne_32 : decode cX11_judgeOne 32 = .ok (.iload_n 3, 1) := by decide +kernel
theorem dX11_judgeOne_33 : decode cX11_judgeOne 33 = .ok (.iload 4, 2) := by decide +kernel
theorem dX11_judgeOne_35 : decode cX11_judgeOne 35 = .ok (.invokevirtual 202, 3) := by decide +kernel
theorem dX11_judgeOne_38 : decode cX11_judgeOne 38 = .ok (.istore 5, 2) := by decide +kernel
theorem dX11_judgeOne_40 : decode cX11_judgeOne 40 = .ok (.iload 5, 2) := by decide +kernel
theorem dX11_judgeOne_42 : decode cX11_judgeOne 42 = .ok (.ifCond .le 15, 3) := by decide +kernel
theorem dX11_judgeOne_45 : decode cX11_judgeOne 45 = .ok (.aload_n 0, 1) := by decide +kernel
theorem dX11_judgeOne_46 : decode cX11_judgeOne 46 = .ok (.aload_n 0, 1) := by decide +kernel
theorem dX11_judgeOne_47 : decode cX11_judgeOne 47 = .ok (.getfield 23, 3) := by decide +kernel
theorem dX11_judgeOne_50 : decode cX11_judgeOne 50 = .ok (.iload_n 2, 1) := by decide +kernel
theorem dX11_judgeOne_51 : decode cX11_judgeOne 51 = .ok (.iload_n 3, 1) := by decide +kernel
theorem dX11_judgeOne_52 : decode cX11_judgeOne 52 = .ok (.iload 4, 2) := by decide +kernel
theorem dX11_judgeOne_54 : decode cX11_judgeOne 54 = .ok (.invokevirtual 206, 3) := by decide +kernel
theorem dX11_judgeOne_57 : decode cX11_judgeOne 57 = .ok (.iload 5, 2) := by decide +kernel
theorem dX11_judgeOne_59 : decode cX11_judgeOne 59 = .ok (.ireturn, 1) := by decide +kernel
theorem bkX11_judgeOne_0 {b : Int} {mem : qm} {Q : Int → qm → Prop}
    {v : Int}
    {P2 : Int → qm → Prop}
    (l1 : 0 ≤ v → q_Ev yX11_canPour cX11_canPour 5 (some .int) 2 0 0 [(2, 0), (2, 14), (0, (q_oidiv v 1000)), (0, (q_oirem (q_oidiv v 100) 10)), (0, (q_oirem v 100))] (q_sh0, q_rb b, mem) (qK (q_rb b) (P2)))
    (l2 : 0 ≤ v → ∀ (r2 : Int), ∀ (m2 : qm), P2 r2 m2 → q_in32 r2 → r2 ≤ 0 → Q r2 m2)
    {P4 : Int → qm → Int → qm → Prop}
    (l3 : 0 ≤ v → ∀ (r2 : Int), ∀ (m2 : qm), P2 r2 m2 → q_in32 r2 → 0 < r2 → q_Ev yX11_makePouring cX11_makePouring 6 none 3 0 0 [(2, 0), (2, 14), (0, (q_oidiv v 1000)), (0, (q_oirem (q_oidiv v 100) 10)), (0, (q_oirem v 100))] (q_sh0, q_rb b, m2) (qK (q_rb b) (P4 r2 m2)))
    (l4 : 0 ≤ v → ∀ (r2 : Int), ∀ (m2 : qm), P2 r2 m2 → q_in32 r2 → 0 < r2 → ∀ (r4 : Int), ∀ (m4 : qm), P4 r2 m2 r4 m4 → q_in32 r4 → Q r2 m4)
    (l5 : v < 0 → Q (-1) mem) :
    q_At yX11_judgeOne cX11_judgeOne 6 (some .int) 4 0 0 (qK (q_rb b) Q) 0 [(2, 0), (0, v), (4, 0), (4, 0), (4, 0), (4, 0)] [] (q_sh0, q_rb b, mem) := by
  refine q_iload_n dX11_judgeOne_0 rfl rfl ?_
  refine qx_if_ge (tgt := 6) dX11_judgeOne_1 (by decide) (fun c1 => ?_) (fun c1 => ?_)
  · skip
    refine q_iload_n dX11_judgeOne_6 rfl rfl ?_
    refine qx_sipush dX11_judgeOne_7 rfl rfl ?_
    refine q_idiv dX11_judgeOne_10 (by decide) ?_
    refine qx_istore_n (L' := [(2, 0), (0, v), (0, (q_oidiv v 1000)), (4, 0), (4, 0), (4, 0)]) dX11_judgeOne_11 rfl rfl rfl rfl ?_
    refine q_iload_n dX11_judgeOne_12 rfl rfl ?_
    refine qx_bipush dX11_judgeOne_13 rfl rfl ?_
    refine q_idiv dX11_judgeOne_15 (by decide) ?_
    refine qx_bipush dX11_judgeOne_16 rfl rfl ?_
    refine q_irem dX11_judgeOne_18 (by decide) ?_
    refine qx_istore_n (L' := [(2, 0), (0, v), (0, (q_oidiv v 1000)), (0, (q_oirem (q_oidiv v 100) 10)), (4, 0), (4, 0)]) dX11_judgeOne_19 rfl rfl rfl rfl ?_
    refine q_iload_n dX11_judgeOne_20 rfl rfl ?_
    refine qx_bipush dX11_judgeOne_21 rfl rfl ?_
    refine q_irem dX11_judgeOne_23 (by decide) ?_
    refine qx_istore (L' := [(2, 0), (0, v), (0, (q_oidiv v 1000)), (0, (q_oirem (q_oidiv v 100) 10)), (0, (q_oirem v 100)), (4, 0)]) dX11_judgeOne_24 rfl rfl rfl ?_
    refine q_aload_n dX11_judgeOne_26 rfl rfl ?_
    refine q_aload_n dX11_judgeOne_27 rfl rfl ?_
    refine q_getR (ci := 11) (k := 2) dX11_judgeOne_28 rfl (by decide) rfl tw351 (by decide) qs0 qw0_2 (by decide) ?_
    refine q_iload_n dX11_judgeOne_31 rfl rfl ?_
    refine q_iload_n dX11_judgeOne_32 rfl rfl ?_
    refine q_iload dX11_judgeOne_33 rfl ?_
    refine qx_invV (ci := 11) [(2, 14), (0, (q_oidiv v 1000)), (0, (q_oirem (q_oidiv v 100) 10)), (0, (q_oirem v 100))] [(0, (q_oirem v 100)), (0, (q_oirem (q_oidiv v 100) 10)), (0, (q_oidiv v 1000)), (2, 14), (2, 0)] rfl qM_X11_canPour dX11_judgeOne_35 tw625 rfl qs0 rfl rfl rfl rfl (l1 c1) (fun r2 m2 p2 q2 => ?_)
    refine qx_istore (L' := [(2, 0), (0, v), (0, (q_oidiv v 1000)), (0, (q_oirem (q_oidiv v 100) 10)), (0, (q_oirem v 100)), (0, r2)]) dX11_judgeOne_38 rfl rfl rfl ?_
    refine q_iload dX11_judgeOne_40 rfl ?_
    refine qx_if_le (tgt := 57) dX11_judgeOne_42 (by decide) (fun c3 => ?_) (fun c3 => ?_)
    · skip
      refine q_iload dX11_judgeOne_57 rfl ?_
      exact q_iret dX11_judgeOne_59 (qK_i (l2 c1 r2 m2 p2 q2 c3))
    · skip
      refine q_aload_n dX11_judgeOne_45 rfl rfl ?_
      refine q_aload_n dX11_judgeOne_46 rfl rfl ?_
      refine q_getR (ci := 11) (k := 2) dX11_judgeOne_47 rfl (by decide) rfl tw351 (by decide) qs0 qw0_2 (by decide) ?_
      refine q_iload_n dX11_judgeOne_50 rfl rfl ?_
      refine q_iload_n dX11_judgeOne_51 rfl rfl ?_
      refine q_iload dX11_judgeOne_52 rfl ?_
      refine qx_invV (ci := 11) [(2, 14), (0, (q_oidiv v 1000)), (0, (q_oirem (q_oidiv v 100) 10)), (0, (q_oirem v 100))] [(0, (q_oirem v 100)), (0, (q_oirem (q_oidiv v 100) 10)), (0, (q_oidiv v 1000)), (2, 14), (2, 0)] rfl qM_X11_makePouring dX11_judgeOne_54 tw629 rfl qs0 rfl rfl rfl rfl (l3 c1 r2 m2 p2 q2 c3) (fun r4 m4 p4 q4 => ?_)
      refine q_iload dX11_judgeOne_57 rfl ?_
      exact q_iret dX11_judgeOne_59 (qK_i (l4 c1 r2 m2 p2 q2 c3 r4 m4 p4 q4))
  · skip
    refine qx_iconst dX11_judgeOne_4 rfl rfl ?_
    exact q_iret dX11_judgeOne_5 (qK_i (l5 c1))
theorem dX11_judge_0 : decode cX11_judge 0 = .ok (.iload_n 1, 1) := by decide +kernel
theorem dX11_judge_1 : decode cX11_judge 1 = .ok (.ifCond .lt 8, 3) := by decide +kernel
theorem dX11_judge_4 : decode cX11_judge 4 = .ok (.iload_n 1, 1) := by decide +kernel
theorem dX11_judge_5 : decode cX11_judge 5 = .ok (.iconst 3, 1) := by decide +kernel
theorem dX11_judge_6 : decode cX11_judge 6 = .ok (.if_icmp .le 5, 3) := by decide +kernel
theorem dX11_judge_9 : decode cX11_judge 9 = .ok (.iconst (-1), 1) := by decide +kernel
theorem dX11_judge_10 : decode cX11_judge 10 = .ok (.ireturn, 1) := by decide +kernel
theorem dX11_judge_11 : decode cX11_judge 11 = .ok (.aload_n 0, 1) := by decide +kernel
theorem dX11_judge_12 : decode cX11_judge 12 = .ok (.getfield 23, 3) := by decide +kernel
theorem dX11_judge_15 : decode cX11_judge 15 = .ok (.aload_n 0, 1) := by decide +kernel
theorem dX11_judge_16 : decode cX11_judge 16 = .ok (.getfield 19, 3) := by decide +kernel
theorem dX11_judge_19 : decode cX11_judge 19 = .ok (.invokevirtual 238, 3) := by decide +kernel
theorem dX11_judge_22 : decode cX11_judge 22 = .ok (.iconst 0, 1) := by decide +kernel
theorem dX11_judge_23 : decode cX11_judge 23 = .ok (.istore 5, 2) := by decide +kernel
theorem dX11_judge_25 : decode cX11_judge 25 = .ok (.bipush (-2), 2) := by decide +kernel
theorem dX11_judge_27 : decode cX11_judge 27 = .ok (.istore 6, 2) := by decide +kernel
theorem dX11_judge_29 : decode cX11_judge 29 = .ok (.iconst 0, 1) := by decide +kernel
theorem dX11_judge_30 : decode cX11_judge 30 = .ok (.istore 7, 2) := by decide +kernel
theorem dX11_judge_32 : decode cX11_judge 32 = .ok (.iload 7, 2) := by decide +kernel
theorem dX11_judge_34 : decode cX11_judge 34 = .ok (.iload_n 1, 1) := by decide +kernel
theorem dX11_judge_35 : decode cX11_judge 35 = .ok (.if_icmp .ge 62, 3) := by decide +kernel
theorem dX11_judge_38 : decode cX11_judge 38 = .ok (.iload 6, 2) := by decide +kernel
theorem dX11_judge_40 : decode cX11_judge 40 = .ok (.bipush (-2), 2) := by decide +kernel
theorem dX11_judge_42 : decode cX11_judge 42 = .ok (.if_icmp .ne 55, 3) := by decide +kernel
theorem dX11_judge_45 : decode cX11_judge 45 = .ok (.aload_n 0, 1) := by decide +kernel
theorem dX11_judge_46 : decode cX11_judge 46 = .ok (.iload 7, 2) := by decide +kernel
theorem dX11_judge_48 : decode cX11_judge 48 = .ok (.ifCond .ne 7, 3) := by decide +kernel
theorem dX11_judge_51 : decode cX11_judge 51 = .ok (.iload_n 2, 1) := by decide +kernel
theorem dX11_judge_52 : decode cX11_judge 52 = .ok (.goto 15, 3) := by decide +kernel
theorem dX11_judge_55 : decode cX11_judge 55 = .ok (.iload 7, 2) := by decide +kernel
theorem dX11_judge_57 : decode cX11_judge 57 = .ok (.iconst 1, 1) := by decide +kernel
theorem dX11_judge_58 : decode cX11_judge 58 = .ok (.if_icmp .ne 7, 3) := by decide +kernel
theorem dX11_judge_61 : decode cX11_judge 61 = .ok (.iload_n 3, 1) := by decide +kernel
theorem dX11_judge_62 : decode cX11_judge 62 = .ok (.goto 5, 3) := by decide +kernel
theorem dX11_judge_65 : decode cX11_judge 65 = .ok (.iload 4, 2) := by decide +kernel
theorem dX11_judge_67 : decode cX11_judge 67 = .ok (.invokevirtual 241, 3) := by decide +kernel
theorem dX11_judge_70 : decode cX11_judge 70 = .ok (.istore 8, 2) := by decide +kernel
theorem dX11_judge_72 : decode cX11_judge 72 = .ok (.iload 8, 2) := by decide +kernel
theorem dX11_judge_74 : decode cX11_judge 74 = .ok (.ifCond .le 13, 3) := by decide +kernel
theorem dX11_judge_77 : decode cX11_judge 77 = .ok (.iload 5, 2) := by decide +kernel
theorem dX11_judge_79 : decode cX11_judge 79 = .ok (.iload 8, 2) := by decide +kernel
theorem dX11_judge_81 : decode cX11_judge 81 = .ok (.iadd, 1) := by decide +kernel
theorem dX11_judge_82 : decode cX11_judge 82 = .ok (.istore 5, 2) := by decide +kernel
theorem dX11_judge_84 : decode cX11_judge 84 = .ok (.goto 7, 3) := by decide +kernel
theorem dX11_judge_87 : decode cX11_judge 87 = .ok (.iload 7, 2) := by decide +kernel
theorem dX11_judge_89 : decode cX11_judge 89 = .ok (.istore 6, 2) := by decide +kernel
theorem dX11_judge_91 : decode cX11_judge 91 = .ok (.iinc 7 1, 3) := by decide +kernel
theorem dX11_judge_94 : decode cX11_judge 94 = .ok (.goto (-62), 3) := by decide +kernel
theorem dX11_judge_97 : decode cX11_judge 97 = .ok (.aload_n 0, 1) := by decide +kernel
theorem dX11_judge_98 : decode cX11_judge 98 = .ok (.invokevirtual 223, 3) := by decide +kernel
theorem dX11_judge_101 : decode cX11_judge 101 = .ok (.aload_n 0, 1) := by decide +kernel
theorem dX11_judge_102 : decode cX11_judge 102 = .ok (.iload 5, 2) := by decide +kernel
theorem dX11_judge_104 : decode cX11_judge 104 = .ok (.invokevirtual 229, 3) := by decide +kernel
theorem dX11_judge_107 : decode cX11_judge 107 = .ok (.aload_n 0, 1) := by decide +kernel
theorem dX11_judge_108 : decode cX11_judge 108 = .ok (.aload_n 0, 1) := by decide +kernel
theorem dX11_judge_109 : decode cX11_judge 109 = .ok (.getfield 23, 3) := by decide +kernel
theorem dX11_judge_112 : decode cX11_judge 112 = .ok (.invokevirtual 244, 3) := by decide +kernel
theorem dX11_judge_115 : decode cX11_judge 115 = .ok (.invokevirtual 229, 3) := by decide +kernel
theorem dX11_judge_118 : decode cX11_judge 118 = .ok (.iload 6, 2) := by decide +kernel
theorem dX11_judge_120 : decode cX11_judge 120 = .ok (.ireturn, 1) := by decide +kernel
theorem bkX11_judge_0 {b : Int} {mem : qm} {Q : Int → qm → Prop}
    {v x y z : Int}
    (l1 : v < 0 → Q (-1) mem)
    {P3 : Int → qm → Prop}
    (l2 : 0 ≤ v → v ≤ 3 → q_Ev yX7_copyWater cX7_copyWater 2 none 1 0 0 [(2, 14), (2, 5)] (q_sh0, q_rb b, mem) (qK (q_rb b) (P3)))
    (l3 : 0 ≤ v → v ≤ 3 → ∀ (r3 : Int), ∀ (m3 : qm), P3 r3 m3 → q_in32 r3 → q_At yX11_judge cX11_judge 9 (some .int) 5 0 0 (qK (q_rb b) Q) 32 [(2, 0), (0, v), (0, x), (0, y), (0, z), (0, 0), (0, (-2)), (0, 0), (4, 0)] [] (q_sh0, q_rb b, m3))
    (l4 : 0 ≤ v → 3 < v → Q (-1) mem) :
    q_At yX11_judge cX11_judge 9 (some .int) 5 0 0 (qK (q_rb b) Q) 0 [(2, 0), (0, v), (0, x), (0, y), (0, z), (4, 0), (4, 0), (4, 0), (4, 0)] [] (q_sh0, q_rb b, mem) := by
  refine q_iload_n dX11_judge_0 rfl rfl ?_
  refine qx_if_lt (tgt := 9) dX11_judge_1 (by decide) (fun c1 => ?_) (fun c1 => ?_)
  · skip
    refine qx_iconst dX11_judge_9 rfl rfl ?_
    exact q_iret dX11_judge_10 (qK_i (l1 c1))
  · skip
    refine q_iload_n dX11_judge_4 rfl rfl ?_
    refine qx_iconst dX11_judge_5 rfl rfl ?_
    refine qx_icmp_le (tgt := 11) dX11_judge_6 (by decide) (fun c2 => ?_) (fun c2 => ?_)
    · skip
      refine q_aload_n dX11_judge_11 rfl rfl ?_
      refine q_getR (ci := 11) (k := 2) dX11_judge_12 rfl (by decide) rfl tw351 (by decide) qs0 qw0_2 (by decide) ?_
      refine q_aload_n dX11_judge_15 rfl rfl ?_
      refine q_getR (ci := 11) (k := 1) dX11_judge_16 rfl (by decide) rfl tw350 (by decide) qs0 qw0_1 (by decide) ?_
      refine qx_invV (ci := 7) [(2, 5)] [(2, 5), (2, 14)] rfl qM_X7_copyWater dX11_judge_19 tw719 rfl qs14 rfl rfl rfl rfl (l2 c1 c2) (fun r3 m3 p3 q3 => ?_)
      refine qx_iconst dX11_judge_22 rfl rfl ?_
      refine qx_istore (L' := [(2, 0), (0, v), (0, x), (0, y), (0, z), (0, 0), (4, 0), (4, 0), (4, 0)]) dX11_judge_23 rfl rfl rfl ?_
      refine qx_bipush dX11_judge_25 rfl rfl ?_
      refine qx_istore (L' := [(2, 0), (0, v), (0, x), (0, y), (0, z), (0, 0), (0, (-2)), (4, 0), (4, 0)]) dX11_judge_27 rfl rfl rfl ?_
      refine qx_iconst dX11_judge_29 rfl rfl ?_
      refine qx_istore (L' := [(2, 0), (0, v), (0, x), (0, y), (0, z), (0, 0), (0, (-2)), (0, 0), (4, 0)]) dX11_judge_30 rfl rfl rfl ?_
      exact l3 c1 c2 r3 m3 p3 q3
    · skip
      refine qx_iconst dX11_judge_9 rfl rfl ?_
      exact q_iret dX11_judge_10 (qK_i (l4 c1 c2))
theorem bkX11_judge_32 {b : Int} {mem : qm} {Q : Int → qm → Prop}
    {v x y z v5 v6 v7 : Int}
    (o1 : v ≤ v7 → (0 ≤ (0 : Int) ∧ (0 : Int) < 10))
    {P4 : Int → qm → Prop}
    (l2 : v ≤ v7 → q_Ev yX7_owedByAll cX7_owedByAll 3 (some .int) 2 0 0 [(2, 14)] (q_sh0, q_rb b, (q_up (q_up (q_up mem 0 16 0) 169 (0 : Int) v5) 0 16 ((0 : Int) + 1))) (qK (q_rb b) (P4)))
    (o3 : v ≤ v7 → ∀ (r4 : Int), ∀ (m4 : qm), P4 r4 m4 → q_in32 r4 → (0 ≤ (m4 0 16) ∧ (m4 0 16) < 10))
    (l4 : v ≤ v7 → ∀ (r4 : Int), ∀ (m4 : qm), P4 r4 m4 → q_in32 r4 → Q v6 (q_up (q_up m4 169 (m4 0 16) r4) 0 16 ((m4 0 16) + 1)))
    (o5 : v7 < v → v6 ≠ (-2) → (0 ≤ (0 : Int) ∧ (0 : Int) < 10))
    {P9 : Int → qm → Prop}
    (l6 : v7 < v → v6 ≠ (-2) → q_Ev yX7_owedByAll cX7_owedByAll 3 (some .int) 2 0 0 [(2, 14)] (q_sh0, q_rb b, (q_up (q_up (q_up mem 0 16 0) 169 (0 : Int) v5) 0 16 ((0 : Int) + 1))) (qK (q_rb b) (P9)))
    (o7 : v7 < v → v6 ≠ (-2) → ∀ (r9 : Int), ∀ (m9 : qm), P9 r9 m9 → q_in32 r9 → (0 ≤ (m9 0 16) ∧ (m9 0 16) < 10))
    (l8 : v7 < v → v6 ≠ (-2) → ∀ (r9 : Int), ∀ (m9 : qm), P9 r9 m9 → q_in32 r9 → Q v6 (q_up (q_up m9 169 (m9 0 16) r9) 0 16 ((m9 0 16) + 1)))
    {P13 : Int → qm → Prop}
    (l9 : v7 < v → v6 = (-2) → v7 ≠ 0 → v7 ≠ 1 → q_Ev yX11_judgeOne cX11_judgeOne 6 (some .int) 4 0 0 [(2, 0), (0, z)] (q_sh0, q_rb b, mem) (qK (q_rb b) (P13)))
    (o10 : v7 < v → v6 = (-2) → v7 ≠ 0 → v7 ≠ 1 → ∀ (r13 : Int), ∀ (m13 : qm), P13 r13 m13 → q_in32 r13 → r13 ≤ 0 → q_in32 (v7 + 1))
    (l11 : v7 < v → v6 = (-2) → v7 ≠ 0 → v7 ≠ 1 → ∀ (r13 : Int), ∀ (m13 : qm), P13 r13 m13 → q_in32 r13 → r13 ≤ 0 → q_At yX11_judge cX11_judge 9 (some .int) 5 0 0 (qK (q_rb b) Q) 32 [(2, 0), (0, v), (0, x), (0, y), (0, z), (0, v5), (0, v7), (0, (v7 + 1)), (4, 0)] [] (q_sh0, q_rb b, m13))
    (o12 : v7 < v → v6 = (-2) → v7 ≠ 0 → v7 ≠ 1 → ∀ (r13 : Int), ∀ (m13 : qm), P13 r13 m13 → q_in32 r13 → 0 < r13 → q_in32 (v5 + r13) ∧ q_in32 (v7 + 1))
    (l13 : v7 < v → v6 = (-2) → v7 ≠ 0 → v7 ≠ 1 → ∀ (r13 : Int), ∀ (m13 : qm), P13 r13 m13 → q_in32 r13 → 0 < r13 → q_At yX11_judge cX11_judge 9 (some .int) 5 0 0 (qK (q_rb b) Q) 32 [(2, 0), (0, v), (0, x), (0, y), (0, z), (0, (v5 + r13)), (0, v6), (0, (v7 + 1)), (4, 0)] [] (q_sh0, q_rb b, m13))
    {P15 : Int → qm → Prop}
    (l14 : v7 < v → v6 = (-2) → v7 ≠ 0 → v7 = 1 → q_Ev yX11_judgeOne cX11_judgeOne 6 (some .int) 4 0 0 [(2, 0), (0, y)] (q_sh0, q_rb b, mem) (qK (q_rb b) (P15)))
    (o15 : v7 < v → v6 = (-2) → v7 ≠ 0 → v7 = 1 → ∀ (r15 : Int), ∀ (m15 : qm), P15 r15 m15 → q_in32 r15 → r15 ≤ 0 → q_in32 (v7 + 1))
    (l16 : v7 < v → v6 = (-2) → v7 ≠ 0 → v7 = 1 → ∀ (r15 : Int), ∀ (m15 : qm), P15 r15 m15 → q_in32 r15 → r15 ≤ 0 → q_At yX11_judge cX11_judge 9 (some .int) 5 0 0 (qK (q_rb b) Q) 32 [(2, 0), (0, v), (0, x), (0, y), (0, z), (0, v5), (0, v7), (0, (v7 + 1)), (4, 0)] [] (q_sh0, q_rb b, m15))
    (o17 : v7 < v → v6 = (-2) → v7 ≠ 0 → v7 = 1 → ∀ (r15 : Int), ∀ (m15 : qm), P15 r15 m15 → q_in32 r15 → 0 < r15 → q_in32 (v5 + r15) ∧ q_in32 (v7 + 1))
    (l18 : v7 < v → v6 = (-2) → v7 ≠ 0 → v7 = 1 → ∀ (r15 : Int), ∀ (m15 : qm), P15 r15 m15 → q_in32 r15 → 0 < r15 → q_At yX11_judge cX11_judge 9 (some .int) 5 0 0 (qK (q_rb b) Q) 32 [(2, 0), (0, v), (0, x), (0, y), (0, z), (0, (v5 + r15)), (0, v6), (0, (v7 + 1)), (4, 0)] [] (q_sh0, q_rb b, m15))
    {P17 : Int → qm → Prop}
    (l19 : v7 < v → v6 = (-2) → v7 = 0 → q_Ev yX11_judgeOne cX11_judgeOne 6 (some .int) 4 0 0 [(2, 0), (0, x)] (q_sh0, q_rb b, mem) (qK (q_rb b) (P17)))
    (o20 : v7 < v → v6 = (-2) → v7 = 0 → ∀ (r17 : Int), ∀ (m17 : qm), P17 r17 m17 → q_in32 r17 → r17 ≤ 0 → q_in32 (v7 + 1))
    (l21 : v7 < v → v6 = (-2) → v7 = 0 → ∀ (r17 : Int), ∀ (m17 : qm), P17 r17 m17 → q_in32 r17 → r17 ≤ 0 → q_At yX11_judge cX11_judge 9 (some .int) 5 0 0 (qK (q_rb b) Q) 32 [(2, 0), (0, v), (0, x), (0, y), (0, z), (0, v5), (0, v7), (0, (v7 + 1)), (4, 0)] [] (q_sh0, q_rb b, m17))
    (o22 : v7 < v → v6 = (-2) → v7 = 0 → ∀ (r17 : Int), ∀ (m17 : qm), P17 r17 m17 → q_in32 r17 → 0 < r17 → q_in32 (v5 + r17) ∧ q_in32 (v7 + 1))
    (l23 : v7 < v → v6 = (-2) → v7 = 0 → ∀ (r17 : Int), ∀ (m17 : qm), P17 r17 m17 → q_in32 r17 → 0 < r17 → q_At yX11_judge cX11_judge 9 (some .int) 5 0 0 (qK (q_rb b) Q) 32 [(2, 0), (0, v), (0, x), (0, y), (0, z), (0, (v5 + r17)), (0, v6), (0, (v7 + 1)), (4, 0)] [] (q_sh0, q_rb b, m17)) :
    q_At yX11_judge cX11_judge 9 (some .int) 5 0 0 (qK (q_rb b) Q) 32 [(2, 0), (0, v), (0, x), (0, y), (0, z), (0, v5), (0, v6), (0, v7), (4, 0)] [] (q_sh0, q_rb b, mem) := by
  refine q_iload dX11_judge_32 rfl ?_
  refine q_iload_n dX11_judge_34 rfl rfl ?_
  refine qx_icmp_ge (tgt := 97) dX11_judge_35 (by decide) (fun c1 => ?_) (fun c1 => ?_)
  · skip
    refine q_aload_n dX11_judge_97 rfl rfl ?_
    refine qx_invV (ci := 11) [] [(2, 0)] rfl qM_X11_clearRow dX11_judge_98 tw691 rfl qs0 rfl rfl rfl rfl (spX11_clearRow) (fun r2 m2 p2 q2 => ?_)
    obtain rfl := p2
    refine q_aload_n dX11_judge_101 rfl rfl ?_
    refine q_iload dX11_judge_102 rfl ?_
    refine qx_invV (ci := 11) [(0, v5)] [(0, v5), (2, 0)] rfl qM_X11_tell dX11_judge_104 tw699 rfl qs0 rfl rfl rfl rfl (spX11_tell (by first | exact (o1 c1) | (simp only [q_up, Int.reduceEq, false_and, true_and, and_true, and_false, ite_false, ite_true, if_true, if_false]; exact (o1 c1)))) (fun r3 m3 p3 q3 => ?_)
    obtain rfl := p3
    refine q_aload_n dX11_judge_107 rfl rfl ?_
    refine q_aload_n dX11_judge_108 rfl rfl ?_
    refine q_getR (ci := 11) (k := 2) dX11_judge_109 rfl (by decide) rfl tw351 (by decide) qs0 qw0_2 (by decide) ?_
    refine qx_invV (ci := 7) [] [(2, 14), (2, 0)] rfl qM_X7_owedByAll dX11_judge_112 tw724 rfl qs14 rfl rfl rfl rfl (l2 c1) (fun r4 m4 p4 q4 => ?_)
    refine qx_invV (ci := 11) [(0, r4)] [(0, r4), (2, 0)] rfl qM_X11_tell dX11_judge_115 tw699 rfl qs0 rfl rfl rfl rfl (spX11_tell (o3 c1 r4 m4 p4 q4)) (fun r5 m5 p5 q5 => ?_)
    obtain rfl := p5
    refine q_iload dX11_judge_118 rfl ?_
    exact q_iret dX11_judge_120 (qK_i (l4 c1 r4 m4 p4 q4))
  · skip
    refine q_iload dX11_judge_38 rfl ?_
    refine qx_bipush dX11_judge_40 rfl rfl ?_
    refine qx_icmp_ne (tgt := 97) dX11_judge_42 (by decide) (fun c6 => ?_) (fun c6 => ?_)
    · skip
      refine q_aload_n dX11_judge_97 rfl rfl ?_
      refine qx_invV (ci := 11) [] [(2, 0)] rfl qM_X11_clearRow dX11_judge_98 tw691 rfl qs0 rfl rfl rfl rfl (spX11_clearRow) (fun r7 m7 p7 q7 => ?_)
      obtain rfl := p7
      refine q_aload_n dX11_judge_101 rfl rfl ?_
      refine q_iload dX11_judge_102 rfl ?_
      refine qx_invV (ci := 11) [(0, v5)] [(0, v5), (2, 0)] rfl qM_X11_tell dX11_judge_104 tw699 rfl qs0 rfl rfl rfl rfl (spX11_tell (by first | exact (o5 c1 c6) | (simp only [q_up, Int.reduceEq, false_and, true_and, and_true, and_false, ite_false, ite_true, if_true, if_false]; exact (o5 c1 c6)))) (fun r8 m8 p8 q8 => ?_)
      obtain rfl := p8
      refine q_aload_n dX11_judge_107 rfl rfl ?_
      refine q_aload_n dX11_judge_108 rfl rfl ?_
      refine q_getR (ci := 11) (k := 2) dX11_judge_109 rfl (by decide) rfl tw351 (by decide) qs0 qw0_2 (by decide) ?_
      refine qx_invV (ci := 7) [] [(2, 14), (2, 0)] rfl qM_X7_owedByAll dX11_judge_112 tw724 rfl qs14 rfl rfl rfl rfl (l6 c1 c6) (fun r9 m9 p9 q9 => ?_)
      refine qx_invV (ci := 11) [(0, r9)] [(0, r9), (2, 0)] rfl qM_X11_tell dX11_judge_115 tw699 rfl qs0 rfl rfl rfl rfl (spX11_tell (o7 c1 c6 r9 m9 p9 q9)) (fun r10 m10 p10 q10 => ?_)
      obtain rfl := p10
      refine q_iload dX11_judge_118 rfl ?_
      exact q_iret dX11_judge_120 (qK_i (l8 c1 c6 r9 m9 p9 q9))
    · skip
      refine q_aload_n dX11_judge_45 rfl rfl ?_
      refine q_iload dX11_judge_46 rfl ?_
      refine qx_if_ne (tgt := 55) dX11_judge_48 (by decide) (fun c11 => ?_) (fun c11 => ?_)
      · skip
        refine q_iload dX11_judge_55 rfl ?_
        refine qx_iconst dX11_judge_57 rfl rfl ?_
        refine qx_icmp_ne (tgt := 65) dX11_judge_58 (by decide) (fun c12 => ?_) (fun c12 => ?_)
        · skip
          refine q_iload dX11_judge_65 rfl ?_
          refine qx_invV (ci := 11) [(0, z)] [(0, z), (2, 0)] rfl qM_X11_judgeOne dX11_judge_67 tw720 rfl qs0 rfl rfl rfl rfl (l9 c1 c6 c11 c12) (fun r13 m13 p13 q13 => ?_)
          refine qx_istore (L' := [(2, 0), (0, v), (0, x), (0, y), (0, z), (0, v5), (0, v6), (0, v7), (0, r13)]) dX11_judge_70 rfl rfl rfl ?_
          refine q_iload dX11_judge_72 rfl ?_
          refine qx_if_le (tgt := 87) dX11_judge_74 (by decide) (fun c14 => ?_) (fun c14 => ?_)
          · skip
            refine q_iload dX11_judge_87 rfl ?_
            refine qx_istore (L' := [(2, 0), (0, v), (0, x), (0, y), (0, z), (0, v5), (0, v7), (0, v7), (0, r13)]) dX11_judge_89 rfl rfl rfl ?_
            refine qx_iinc (L' := [(2, 0), (0, v), (0, x), (0, y), (0, z), (0, v5), (0, v7), (0, (v7 + 1)), (0, r13)]) dX11_judge_91 rfl rfl rfl (o10 c1 c6 c11 c12 r13 m13 p13 q13 c14) rfl ?_
            refine q_goto (tgt := 32) dX11_judge_94 (by decide) ?_
            refine q_kill (L' := [(2, 0), (0, v), (0, x), (0, y), (0, z), (0, v5), (0, v7), (0, (v7 + 1)), (4, 0)]) 8 rfl ?_
            exact l11 c1 c6 c11 c12 r13 m13 p13 q13 c14
          · skip
            refine q_iload dX11_judge_77 rfl ?_
            refine q_iload dX11_judge_79 rfl ?_
            refine qx_iadd dX11_judge_81 (o12 c1 c6 c11 c12 r13 m13 p13 q13 c14).1 ?_
            refine qx_istore (L' := [(2, 0), (0, v), (0, x), (0, y), (0, z), (0, (v5 + r13)), (0, v6), (0, v7), (0, r13)]) dX11_judge_82 rfl rfl rfl ?_
            refine q_goto (tgt := 91) dX11_judge_84 (by decide) ?_
            refine qx_iinc (L' := [(2, 0), (0, v), (0, x), (0, y), (0, z), (0, (v5 + r13)), (0, v6), (0, (v7 + 1)), (0, r13)]) dX11_judge_91 rfl rfl rfl (o12 c1 c6 c11 c12 r13 m13 p13 q13 c14).2 rfl ?_
            refine q_goto (tgt := 32) dX11_judge_94 (by decide) ?_
            refine q_kill (L' := [(2, 0), (0, v), (0, x), (0, y), (0, z), (0, (v5 + r13)), (0, v6), (0, (v7 + 1)), (4, 0)]) 8 rfl ?_
            exact l13 c1 c6 c11 c12 r13 m13 p13 q13 c14
        · skip
          refine q_iload_n dX11_judge_61 rfl rfl ?_
          refine q_goto (tgt := 67) dX11_judge_62 (by decide) ?_
          refine qx_invV (ci := 11) [(0, y)] [(0, y), (2, 0)] rfl qM_X11_judgeOne dX11_judge_67 tw720 rfl qs0 rfl rfl rfl rfl (l14 c1 c6 c11 c12) (fun r15 m15 p15 q15 => ?_)
          refine qx_istore (L' := [(2, 0), (0, v), (0, x), (0, y), (0, z), (0, v5), (0, v6), (0, v7), (0, r15)]) dX11_judge_70 rfl rfl rfl ?_
          refine q_iload dX11_judge_72 rfl ?_
          refine qx_if_le (tgt := 87) dX11_judge_74 (by decide) (fun c16 => ?_) (fun c16 => ?_)
          · skip
            refine q_iload dX11_judge_87 rfl ?_
            refine qx_istore (L' := [(2, 0), (0, v), (0, x), (0, y), (0, z), (0, v5), (0, v7), (0, v7), (0, r15)]) dX11_judge_89 rfl rfl rfl ?_
            refine qx_iinc (L' := [(2, 0), (0, v), (0, x), (0, y), (0, z), (0, v5), (0, v7), (0, (v7 + 1)), (0, r15)]) dX11_judge_91 rfl rfl rfl (o15 c1 c6 c11 c12 r15 m15 p15 q15 c16) rfl ?_
            refine q_goto (tgt := 32) dX11_judge_94 (by decide) ?_
            refine q_kill (L' := [(2, 0), (0, v), (0, x), (0, y), (0, z), (0, v5), (0, v7), (0, (v7 + 1)), (4, 0)]) 8 rfl ?_
            exact l16 c1 c6 c11 c12 r15 m15 p15 q15 c16
          · skip
            refine q_iload dX11_judge_77 rfl ?_
            refine q_iload dX11_judge_79 rfl ?_
            refine qx_iadd dX11_judge_81 (o17 c1 c6 c11 c12 r15 m15 p15 q15 c16).1 ?_
            refine qx_istore (L' := [(2, 0), (0, v), (0, x), (0, y), (0, z), (0, (v5 + r15)), (0, v6), (0, v7), (0, r15)]) dX11_judge_82 rfl rfl rfl ?_
            refine q_goto (tgt := 91) dX11_judge_84 (by decide) ?_
            refine qx_iinc (L' := [(2, 0), (0, v), (0, x), (0, y), (0, z), (0, (v5 + r15)), (0, v6), (0, (v7 + 1)), (0, r15)]) dX11_judge_91 rfl rfl rfl (o17 c1 c6 c11 c12 r15 m15 p15 q15 c16).2 rfl ?_
            refine q_goto (tgt := 32) dX11_judge_94 (by decide) ?_
            refine q_kill (L' := [(2, 0), (0, v), (0, x), (0, y), (0, z), (0, (v5 + r15)), (0, v6), (0, (v7 + 1)), (4, 0)]) 8 rfl ?_
            exact l18 c1 c6 c11 c12 r15 m15 p15 q15 c16
      · skip
        refine q_iload_n dX11_judge_51 rfl rfl ?_
        refine q_goto (tgt := 67) dX11_judge_52 (by decide) ?_
        refine qx_invV (ci := 11) [(0, x)] [(0, x), (2, 0)] rfl qM_X11_judgeOne dX11_judge_67 tw720 rfl qs0 rfl rfl rfl rfl (l19 c1 c6 c11) (fun r17 m17 p17 q17 => ?_)
        refine qx_istore (L' := [(2, 0), (0, v), (0, x), (0, y), (0, z), (0, v5), (0, v6), (0, v7), (0, r17)]) dX11_judge_70 rfl rfl rfl ?_
        refine q_iload dX11_judge_72 rfl ?_
        refine qx_if_le (tgt := 87) dX11_judge_74 (by decide) (fun c18 => ?_) (fun c18 => ?_)
        · skip
          refine q_iload dX11_judge_87 rfl ?_
          refine qx_istore (L' := [(2, 0), (0, v), (0, x), (0, y), (0, z), (0, v5), (0, v7), (0, v7), (0, r17)]) dX11_judge_89 rfl rfl rfl ?_
          refine qx_iinc (L' := [(2, 0), (0, v), (0, x), (0, y), (0, z), (0, v5), (0, v7), (0, (v7 + 1)), (0, r17)]) dX11_judge_91 rfl rfl rfl (o20 c1 c6 c11 r17 m17 p17 q17 c18) rfl ?_
          refine q_goto (tgt := 32) dX11_judge_94 (by decide) ?_
          refine q_kill (L' := [(2, 0), (0, v), (0, x), (0, y), (0, z), (0, v5), (0, v7), (0, (v7 + 1)), (4, 0)]) 8 rfl ?_
          exact l21 c1 c6 c11 r17 m17 p17 q17 c18
        · skip
          refine q_iload dX11_judge_77 rfl ?_
          refine q_iload dX11_judge_79 rfl ?_
          refine qx_iadd dX11_judge_81 (o22 c1 c6 c11 r17 m17 p17 q17 c18).1 ?_
          refine qx_istore (L' := [(2, 0), (0, v), (0, x), (0, y), (0, z), (0, (v5 + r17)), (0, v6), (0, v7), (0, r17)]) dX11_judge_82 rfl rfl rfl ?_
          refine q_goto (tgt := 91) dX11_judge_84 (by decide) ?_
          refine qx_iinc (L' := [(2, 0), (0, v), (0, x), (0, y), (0, z), (0, (v5 + r17)), (0, v6), (0, (v7 + 1)), (0, r17)]) dX11_judge_91 rfl rfl rfl (o22 c1 c6 c11 r17 m17 p17 q17 c18).2 rfl ?_
          refine q_goto (tgt := 32) dX11_judge_94 (by decide) ?_
          refine q_kill (L' := [(2, 0), (0, v), (0, x), (0, y), (0, z), (0, (v5 + r17)), (0, v6), (0, (v7 + 1)), (4, 0)]) 8 rfl ?_
          exact l23 c1 c6 c11 r17 m17 p17 q17 c18
theorem dX11_tryAsNow_0 : decode cX11_tryAsNow 0 = .ok (.aload_n 0, 1) := by decide +kernel
theorem dX11_tryAsNow_1 : decode cX11_tryAsNow 1 = .ok (.getfield 23, 3) := by decide +kernel
theorem dX11_tryAsNow_4 : decode cX11_tryAsNow 4 = .ok (.aload_n 0, 1) := by decide +kernel
theorem dX11_tryAsNow_5 : decode cX11_tryAsNow 5 = .ok (.getfield 19, 3) := by decide +kernel
theorem dX11_tryAsNow_8 : decode cX11_tryAsNow 8 = .ok (.invokevirtual 238, 3) := by decide +kernel
theorem dX11_tryAsNow_11 : decode cX11_tryAsNow 11 = .ok (.aload_n 0, 1) := by decide +kernel
theorem dX11_tryAsNow_12 : decode cX11_tryAsNow 12 = .ok (.getfield 23, 3) := by decide +kernel
theorem dX11_tryAsNow_15 : decode cX11_tryAsNow 15 = .ok (.aload_n 0, 1) := by decide +kernel
theorem dX11_tryAsNow_16 : decode cX11_tryAsNow 16 = .ok (.getfield 19, 3) := by decide +kernel
theorem dX11_tryAsNow_19 : decode cX11_tryAsNow 19 = .ok (.invokevirtual 409, 3) := by decide +kernel
theorem dX11_tryAsNow_22 : decode cX11_tryAsNow 22 = .ok (.return_, 1) := by decide +kernel
theorem bkX11_tryAsNow_0 {b : Int} {mem : qm} {Q : Int → qm → Prop}
    {P1 : Int → qm → Prop}
    (l1 : q_Ev yX7_copyWater cX7_copyWater 2 none 1 0 0 [(2, 14), (2, 5)] (q_sh0, q_rb b, mem) (qK (q_rb b) (P1)))
    {P2 : Int → qm → Int → qm → Prop}
    (l2 : ∀ (r1 : Int), ∀ (m1 : qm), P1 r1 m1 → q_in32 r1 → q_Ev yX7_copyPipes cX7_copyPipes 2 none 1 0 0 [(2, 14), (2, 5)] (q_sh0, q_rb b, m1) (qK (q_rb b) (P2 r1 m1)))
    (l3 : ∀ (r1 : Int), ∀ (m1 : qm), P1 r1 m1 → q_in32 r1 → ∀ (r2 : Int), ∀ (m2 : qm), P2 r1 m1 r2 m2 → q_in32 r2 → Q 0 m2) :
    q_At yX11_tryAsNow cX11_tryAsNow 1 none 2 0 0 (qK (q_rb b) Q) 0 [(2, 0)] [] (q_sh0, q_rb b, mem) := by
  refine q_aload_n dX11_tryAsNow_0 rfl rfl ?_
  refine q_getR (ci := 11) (k := 2) dX11_tryAsNow_1 rfl (by decide) rfl tw351 (by decide) qs0 qw0_2 (by decide) ?_
  refine q_aload_n dX11_tryAsNow_4 rfl rfl ?_
  refine q_getR (ci := 11) (k := 1) dX11_tryAsNow_5 rfl (by decide) rfl tw350 (by decide) qs0 qw0_1 (by decide) ?_
  refine qx_invV (ci := 7) [(2, 5)] [(2, 5), (2, 14)] rfl qM_X7_copyWater dX11_tryAsNow_8 tw719 rfl qs14 rfl rfl rfl rfl (l1) (fun r1 m1 p1 q1 => ?_)
  refine q_aload_n dX11_tryAsNow_11 rfl rfl ?_
  refine q_getR (ci := 11) (k := 2) dX11_tryAsNow_12 rfl (by decide) rfl tw351 (by decide) qs0 qw0_2 (by decide) ?_
  refine q_aload_n dX11_tryAsNow_15 rfl rfl ?_
  refine q_getR (ci := 11) (k := 1) dX11_tryAsNow_16 rfl (by decide) rfl tw350 (by decide) qs0 qw0_1 (by decide) ?_
  refine qx_invV (ci := 7) [(2, 5)] [(2, 5), (2, 14)] rfl qM_X7_copyPipes dX11_tryAsNow_19 tw993 rfl qs14 rfl rfl rfl rfl (l2 r1 m1 p1 q1) (fun r2 m2 p2 q2 => ?_)
  exact q_vret dX11_tryAsNow_22 (qK_i (l3 r1 m1 p1 q1 r2 m2 p2 q2))
theorem dX11_isQuiet_0 : decode cX11_isQuiet 0 = .ok (.iconst 0, 1) := by decide +kernel
theorem dX11_isQuiet_1 : decode cX11_isQuiet 1 = .ok (.istore_n 2, 1) := by decide +kernel
theorem dX11_isQuiet_2 : decode cX11_isQuiet 2 = .ok (.iload_n 2, 1) := by decide +kernel
theorem dX11_isQuiet_3 : decode cX11_isQuiet 3 = .ok (.aload_n 0, 1) := by decide +kernel
theorem dX11_isQuiet_4 : decode cX11_isQuiet 4 = .ok (.getfield 10, 3) := by decide +kernel
theorem dX11_isQuiet_7 : decode cX11_isQuiet 7 = .ok (.getfield 173, 3) := by decide +kernel
theorem dX11_isQuiet_10 : decode cX11_isQuiet 10 = .ok (.if_icmp .ge 29, 3) := by decide +kernel
theorem dX11_isQuiet_13 : decode cX11_isQuiet 13 = .ok (.aload_n 1, 1) := by decide +kernel
theorem dX11_isQuiet_14 : decode cX11_isQuiet 14 = .ok (.getfield 142, 3) := by decide +kernel
theorem dX11_isQuiet_17 : decode cX11_isQuiet 17 = .ok (.iload_n 2, 1) := by decide +kernel
theorem dX11_isQuiet_18 : decode cX11_isQuiet 18 = .ok (.iaload, 1) := by decide +kernel
theorem dX11_isQuiet_19 : decode cX11_isQuiet 19 = .ok (.ifCond .le 14, 3) := by decide +kernel
theorem dX11_isQuiet_22 : decode cX11_isQuiet 22 = .ok (.aload_n 1, 1) := by decide +kernel
theorem dX11_isQuiet_23 : decode cX11_isQuiet 23 = .ok (.getfield 148, 3) := by decide +kernel
theorem dX11_isQuiet_26 : decode cX11_isQuiet 26 = .ok (.iload_n 2, 1) := by decide +kernel
theorem dX11_isQuiet_27 : decode cX11_isQuiet 27 = .ok (.iaload, 1) := by decide +kernel
theorem dX11_isQuiet_28 : decode cX11_isQuiet 28 = .ok (.ifCond .le 5, 3) := by decide +kernel
theorem dX11_isQuiet_31 : decode cX11_isQuiet 31 = .ok (.iconst 0, 1) := by decide +kernel
theorem dX11_isQuiet_32 : decode cX11_isQuiet 32 = .ok (.ireturn, 1) := by decide +kernel
theorem dX11_isQuiet_33 : decode cX11_isQuiet 33 = .ok (.iinc 2 1, 3) := by decide +kernel
theorem dX11_isQuiet_36 : decode cX11_isQuiet 36 = .ok (.goto (-34), 3) := by decide +kernel
theorem dX11_isQuiet_39 : decode cX11_isQuiet 39 = .ok (.iconst 1, 1) := by decide +kernel
theorem dX11_isQuiet_40 : decode cX11_isQuiet 40 = .ok (.ireturn, 1) := by decide +kernel
theorem bkX11_isQuiet_0 {b : Int} {mem : qm} {Q : Int → qm → Prop}
    {s : Int}
    (hs : q_st s)
    (l1 : q_At yX11_isQuiet cX11_isQuiet 3 (some .boolean) 1 0 0 (qK (q_rb b) Q) 2 [(2, 0), (2, s), (0, 0)] [] (q_sh0, q_rb b, mem)) :
    q_At yX11_isQuiet cX11_isQuiet 3 (some .boolean) 1 0 0 (qK (q_rb b) Q) 0 [(2, 0), (2, s), (4, 0)] [] (q_sh0, q_rb b, mem) := by
  refine qx_iconst dX11_isQuiet_0 rfl rfl ?_
  refine qx_istore_n (L' := [(2, 0), (2, s), (0, 0)]) dX11_isQuiet_1 rfl rfl rfl rfl ?_
  exact l1
theorem bkX11_isQuiet_2 {b : Int} {mem : qm} {Q : Int → qm → Prop}
    {v2 s : Int}
    (hs : q_st s)
    (l1 : (mem 1 3) ≤ v2 → Q 1 mem)
    (o2 : v2 < (mem 1 3) → (0 ≤ v2 ∧ v2 < 9))
    (o3 : v2 < (mem 1 3) → (mem (s + 3) v2) ≤ 0 → q_in32 (v2 + 1))
    (l4 : v2 < (mem 1 3) → (mem (s + 3) v2) ≤ 0 → q_At yX11_isQuiet cX11_isQuiet 3 (some .boolean) 1 0 0 (qK (q_rb b) Q) 2 [(2, 0), (2, s), (0, (v2 + 1))] [] (q_sh0, q_rb b, mem))
    (o5 : v2 < (mem 1 3) → 0 < (mem (s + 3) v2) → (mem (s + 5) v2) ≤ 0 → q_in32 (v2 + 1))
    (l6 : v2 < (mem 1 3) → 0 < (mem (s + 3) v2) → (mem (s + 5) v2) ≤ 0 → q_At yX11_isQuiet cX11_isQuiet 3 (some .boolean) 1 0 0 (qK (q_rb b) Q) 2 [(2, 0), (2, s), (0, (v2 + 1))] [] (q_sh0, q_rb b, mem))
    (l7 : v2 < (mem 1 3) → 0 < (mem (s + 3) v2) → 0 < (mem (s + 5) v2) → Q 0 mem) :
    q_At yX11_isQuiet cX11_isQuiet 3 (some .boolean) 1 0 0 (qK (q_rb b) Q) 2 [(2, 0), (2, s), (0, v2)] [] (q_sh0, q_rb b, mem) := by
  refine q_iload_n dX11_isQuiet_2 rfl rfl ?_
  refine q_aload_n dX11_isQuiet_3 rfl rfl ?_
  refine q_getR (ci := 11) (k := 0) dX11_isQuiet_4 rfl (by decide) rfl tw349 (by decide) qs0 qw0_0 (by decide) ?_
  refine qx_getI (ci := 9) (k := 3) (v := (mem 1 3)) dX11_isQuiet_7 rfl rfl rfl tw53 rfl qs1 rfl ?_
  refine qx_icmp_ge (tgt := 39) dX11_isQuiet_10 (by decide) (fun c1 => ?_) (fun c1 => ?_)
  · skip
    refine qx_iconst dX11_isQuiet_39 rfl rfl ?_
    exact q_zret dX11_isQuiet_40 (by decide) (qK_i (l1 c1))
  · skip
    refine q_aload_n dX11_isQuiet_13 rfl rfl ?_
    refine q_getR (ci := 7) (k := 2) dX11_isQuiet_14 rfl (by decide) rfl tw77 (by decide) (qst0 hs) (qsw2 hs) (by have := qst_nn hs; omega) ?_
    refine q_iload_n dX11_isQuiet_17 rfl rfl ?_
    refine qx_iald (v := (mem (s + 3) v2)) dX11_isQuiet_18 (qst3 hs) (o2 c1) rfl ?_
    refine qx_if_le (tgt := 33) dX11_isQuiet_19 (by decide) (fun c2 => ?_) (fun c2 => ?_)
    · skip
      refine qx_iinc (L' := [(2, 0), (2, s), (0, (v2 + 1))]) dX11_isQuiet_33 rfl rfl rfl (o3 c1 c2) rfl ?_
      refine q_goto (tgt := 2) dX11_isQuiet_36 (by decide) ?_
      exact l4 c1 c2
    · skip
      refine q_aload_n dX11_isQuiet_22 rfl rfl ?_
      refine q_getR (ci := 7) (k := 4) dX11_isQuiet_23 rfl (by decide) rfl tw87 (by decide) (qst0 hs) (qsw4 hs) (by have := qst_nn hs; omega) ?_
      refine q_iload_n dX11_isQuiet_26 rfl rfl ?_
      refine qx_iald (v := (mem (s + 5) v2)) dX11_isQuiet_27 (qst5 hs) (o2 c1) rfl ?_
      refine qx_if_le (tgt := 33) dX11_isQuiet_28 (by decide) (fun c3 => ?_) (fun c3 => ?_)
      · skip
        refine qx_iinc (L' := [(2, 0), (2, s), (0, (v2 + 1))]) dX11_isQuiet_33 rfl rfl rfl (o5 c1 c2 c3) rfl ?_
        refine q_goto (tgt := 2) dX11_isQuiet_36 (by decide) ?_
        exact l6 c1 c2 c3
      · skip
        refine qx_iconst dX11_isQuiet_31 rfl rfl ?_
        exact q_zret dX11_isQuiet_32 (by decide) (qK_i (l7 c1 c2 c3))
theorem dX11_comes_0 : decode cX11_comes 0 = .ok (.aload_n 0, 1) := by decide +kernel
theorem dX11_comes_1 : decode cX11_comes 1 = .ok (.iload_n 1, 1) := by decide +kernel
theorem dX11_comes_2 : decode cX11_comes 2 = .ok (.invokevirtual 131, 3) := by decide +kernel
theorem dX11_comes_5 : decode cX11_comes 5 = .ok (.ifCond .eq 10, 3) := by decide +kernel
theorem dX11_comes_8 : decode cX11_comes 8 = .ok (.iload_n 2, 1) := by decide +kernel
theorem dX11_comes_9 : decode cX11_comes 9 = .ok (.invokestatic 188, 3) := by decide +kernel
theorem dX11_comes_12 : decode cX11_comes 12 = .ok (.ifCond .ne 5, 3) := by decide +kernel
theorem dX11_comes_15 : decode cX11_comes 15 = .ok (.iconst (-1), 1) := by decide +kernel
theorem dX11_comes_16 : decode cX11_comes 16 = .ok (.ireturn, 1) := by decide +kernel
theorem dX11_comes_17 : decode cX11_comes 17 = .ok (.aload_n 0, 1) := by decide +kernel
theorem dX11_comes_18 : decode cX11_comes 18 = .ok (.invokevirtual 364, 3) := by decide +kernel
theorem dX11_comes_21 : decode cX11_comes 21 = .ok (.iconst 0, 1) := by decide +kernel
theorem dX11_comes_22 : decode cX11_comes 22 = .ok (.istore_n 3, 1) := by decide +kernel
theorem dX11_comes_23 : decode cX11_comes 23 = .ok (.iload_n 3, 1) := by decide +kernel
theorem dX11_comes_24 : decode cX11_comes 24 = .ok (.sipush 200, 3) := by decide +kernel
theorem dX11_comes_27 : decode cX11_comes 27 = .ok (.if_icmp .gt 57, 3) := by decide +kernel
theorem dX11_comes_30 : decode cX11_comes 30 = .ok (.aload_n 0, 1) := by decide +kernel
theorem dX11_comes_31 : decode cX11_comes 31 = .ok (.getfield 23, 3) := by decide +kernel
theorem dX11_comes_34 : decode cX11_comes 34 = .ok (.iload_n 2, 1) := by decide +kernel
theorem dX11_comes_35 : decode cX11_comes 35 = .ok (.iload_n 1, 1) := by decide +kernel
theorem dX11_comes_36 : decode cX11_comes 36 = .ok (.aload_n 0, 1) := by decide +kernel
theorem dX11_comes_37 : decode cX11_comes 37 = .ok (.getfield 23, 3) := by decide +kernel
theorem dX11_comes_40 : decode cX11_comes 40 = .ok (.getfield 142, 3) := by decide +kernel
theorem dX11_comes_43 : decode cX11_comes 43 = .ok (.iload_n 1, 1) := by decide +kernel
theorem dX11_comes_44 : decode cX11_comes 44 = .ok (.iaload, 1) := by decide +kernel
theorem dX11_comes_45 : decode cX11_comes 45 = .ok (.invokevirtual 361, 3) := by decide +kernel
theorem dX11_comes_48 : decode cX11_comes 48 = .ok (.ifCond .le 5, 3) := by decide +kernel
theorem dX11_comes_51 : decode cX11_comes 51 = .ok (.iload_n 3, 1) := by decide +kernel
theorem dX11_comes_52 : decode cX11_comes 52 = .ok (.ireturn, 1) := by decide +kernel
theorem dX11_comes_53 : decode cX11_comes 53 = .ok (.aload_n 0, 1) := by decide +kernel
theorem dX11_comes_54 : decode cX11_comes 54 = .ok (.aload_n 0, 1) := by decide +kernel
theorem dX11_comes_55 : decode cX11_comes 55 = .ok (.getfield 23, 3) := by decide +kernel
theorem dX11_comes_58 : decode cX11_comes 58 = .ok (.invokevirtual 367, 3) := by decide +kernel
theorem dX11_comes_61 : decode cX11_comes 61 = .ok (.ifCond .eq 6, 3) := by decide +kernel
theorem dX11_comes_64 : decode cX11_comes 64 = .ok (.bipush (-2), 2) := by decide +kernel
theorem dX11_comes_66 : decode cX11_comes 66 = .ok (.ireturn, 1) := by decide +kernel
theorem dX11_comes_67 : decode cX11_comes 67 = .ok (.aload_n 0, 1) := by decide +kernel
theorem dX11_comes_68 : decode cX11_comes 68 = .ok (.getfield 31, 3) := by decide +kernel
theorem dX11_comes_71 : decode cX11_comes 71 = .ok (.aload_n 0, 1) := by decide +kernel
theorem dX11_comes_72 : decode cX11_comes 72 = .ok (.getfield 23, 3) := by decide +kernel
theorem dX11_comes_75 : decode cX11_comes 75 = .ok (.invokevirtual 220, 3) := by decide +kernel
theorem dX11_comes_78 : decode cX11_comes 78 = .ok (.iinc 3 1, 3) := by decide +kernel
theorem dX11_comes_81 : decode cX11_comes 81 = .ok (.goto (-58), 3) := by decide +kernel
theorem dX11_comes_84 : decode cX11_comes 84 = .ok (.bipush (-2), 2) := by decide +kernel
theorem dX11_comes_86 : decode cX11_comes 86 = .ok (.ireturn, 1) := by decide +kernel
theorem bkX11_comes_0 {b : Int} {mem : qm} {Q : Int → qm → Prop}
    {j v : Int}
    {P3 : Int → qm → Prop}
    (l1 : (0 ≤ j ∧ j < (mem 1 3)) → (0 ≤ v ∧ v < 7) → q_Ev yX11_tryAsNow cX11_tryAsNow 1 none 2 0 0 [(2, 0)] (q_sh0, q_rb b, mem) (qK (q_rb b) (P3)))
    (l2 : (0 ≤ j ∧ j < (mem 1 3)) → (0 ≤ v ∧ v < 7) → ∀ (r3 : Int), ∀ (m3 : qm), P3 r3 m3 → q_in32 r3 → q_At yX11_comes cX11_comes 4 (some .int) 5 0 0 (qK (q_rb b) Q) 23 [(2, 0), (0, j), (0, v), (0, 0)] [] (q_sh0, q_rb b, m3))
    (l3 : (0 ≤ j ∧ j < (mem 1 3)) → ¬ (0 ≤ v ∧ v < 7) → Q (-1) mem)
    (l4 : ¬ (0 ≤ j ∧ j < (mem 1 3)) → Q (-1) mem) :
    q_At yX11_comes cX11_comes 4 (some .int) 5 0 0 (qK (q_rb b) Q) 0 [(2, 0), (0, j), (0, v), (4, 0)] [] (q_sh0, q_rb b, mem) := by
  refine q_aload_n dX11_comes_0 rfl rfl ?_
  refine q_iload_n dX11_comes_1 rfl rfl ?_
  refine qx_invV (ci := 11) [(0, j)] [(0, j), (2, 0)] rfl qM_X11_isJar dX11_comes_2 tw576 rfl qs0 rfl rfl rfl rfl (spX11_isJar) (fun r1 m1 p1 q1 => ?_)
  obtain ⟨p1e, ⟨p1f, p1⟩ | ⟨p1f, p1⟩⟩ := p1
  · rw [p1e, p1f]
    refine qx_if_eq (tgt := 15) dX11_comes_5 (by decide) (fun z => absurd z (by decide)) (fun _ => ?_)
    refine q_iload_n dX11_comes_8 rfl rfl ?_
    refine qx_invS [(0, v)] [(0, v)] rfl qM_X11_isOrigin dX11_comes_9 tw603 rfl rfl rfl rfl (spX11_isOrigin) (fun r2 m2 p2 q2 => ?_)
    obtain ⟨p2e, ⟨p2f, p2⟩ | ⟨p2f, p2⟩⟩ := p2
    · rw [p2e, p2f]
      refine qx_if_ne (tgt := 17) dX11_comes_12 (by decide) (fun _ => ?_) (fun z => absurd z (by decide))
      refine q_aload_n dX11_comes_17 rfl rfl ?_
      refine qx_invV (ci := 11) [] [(2, 0)] rfl qM_X11_tryAsNow dX11_comes_18 tw989 rfl qs0 rfl rfl rfl rfl (l1 p1 p2) (fun r3 m3 p3 q3 => ?_)
      refine qx_iconst dX11_comes_21 rfl rfl ?_
      refine qx_istore_n (L' := [(2, 0), (0, j), (0, v), (0, 0)]) dX11_comes_22 rfl rfl rfl rfl ?_
      exact l2 p1 p2 r3 m3 p3 q3
    · rw [p2e, p2f]
      refine qx_if_ne (tgt := 17) dX11_comes_12 (by decide) (fun z => absurd z (by decide)) (fun _ => ?_)
      refine qx_iconst dX11_comes_15 rfl rfl ?_
      exact q_iret dX11_comes_16 (qK_i (l3 p1 p2))
  · rw [p1e, p1f]
    refine qx_if_eq (tgt := 15) dX11_comes_5 (by decide) (fun _ => ?_) (fun z => absurd z (by decide))
    refine qx_iconst dX11_comes_15 rfl rfl ?_
    exact q_iret dX11_comes_16 (qK_i (l4 p1))
theorem bkX11_comes_23 {b : Int} {mem : qm} {Q : Int → qm → Prop}
    {j v v3 : Int}
    (l1 : 200 < v3 → Q (-2) mem)
    (o2 : v3 ≤ 200 → (0 ≤ j ∧ j < 9))
    {P2 : Int → qm → Prop}
    (l3 : v3 ≤ 200 → q_Ev yX7_dropsFrom cX7_dropsFrom 6 (some .int) 3 0 0 [(2, 14), (0, v), (0, j), (0, (mem 17 j))] (q_sh0, q_rb b, mem) (qK (q_rb b) (P2)))
    {P4 : Int → qm → Int → qm → Prop}
    (l4 : v3 ≤ 200 → ∀ (r2 : Int), ∀ (m2 : qm), P2 r2 m2 → q_in32 r2 → r2 ≤ 0 → q_Ev yX11_isQuiet cX11_isQuiet 3 (some .boolean) 1 0 0 [(2, 0), (2, 14)] (q_sh0, q_rb b, m2) (qK (q_rb b) (P4 r2 m2)))
    {P6 : Int → qm → Int → qm → Int → qm → Prop}
    (l5 : v3 ≤ 200 → ∀ (r2 : Int), ∀ (m2 : qm), P2 r2 m2 → q_in32 r2 → r2 ≤ 0 → ∀ (r4 : Int), ∀ (m4 : qm), P4 r2 m2 r4 m4 → q_in32 r4 → r4 = 0 → q_Ev yX0_strike cX0_strike 3 none 4 0 0 [(2, 23), (2, 14)] (q_sh0, q_rb b, m4) (qK (q_rb b) (P6 r2 m2 r4 m4)))
    (o6 : v3 ≤ 200 → ∀ (r2 : Int), ∀ (m2 : qm), P2 r2 m2 → q_in32 r2 → r2 ≤ 0 → ∀ (r4 : Int), ∀ (m4 : qm), P4 r2 m2 r4 m4 → q_in32 r4 → r4 = 0 → ∀ (r6 : Int), ∀ (m6 : qm), P6 r2 m2 r4 m4 r6 m6 → q_in32 r6 → q_in32 (v3 + 1))
    (l7 : v3 ≤ 200 → ∀ (r2 : Int), ∀ (m2 : qm), P2 r2 m2 → q_in32 r2 → r2 ≤ 0 → ∀ (r4 : Int), ∀ (m4 : qm), P4 r2 m2 r4 m4 → q_in32 r4 → r4 = 0 → ∀ (r6 : Int), ∀ (m6 : qm), P6 r2 m2 r4 m4 r6 m6 → q_in32 r6 → q_At yX11_comes cX11_comes 4 (some .int) 5 0 0 (qK (q_rb b) Q) 23 [(2, 0), (0, j), (0, v), (0, (v3 + 1))] [] (q_sh0, q_rb b, m6))
    (l8 : v3 ≤ 200 → ∀ (r2 : Int), ∀ (m2 : qm), P2 r2 m2 → q_in32 r2 → r2 ≤ 0 → ∀ (r4 : Int), ∀ (m4 : qm), P4 r2 m2 r4 m4 → q_in32 r4 → r4 ≠ 0 → Q (-2) m4)
    (l9 : v3 ≤ 200 → ∀ (r2 : Int), ∀ (m2 : qm), P2 r2 m2 → q_in32 r2 → 0 < r2 → Q v3 m2) :
    q_At yX11_comes cX11_comes 4 (some .int) 5 0 0 (qK (q_rb b) Q) 23 [(2, 0), (0, j), (0, v), (0, v3)] [] (q_sh0, q_rb b, mem) := by
  refine q_iload_n dX11_comes_23 rfl rfl ?_
  refine qx_sipush dX11_comes_24 rfl rfl ?_
  refine qx_icmp_gt (tgt := 84) dX11_comes_27 (by decide) (fun c1 => ?_) (fun c1 => ?_)
  · skip
    refine qx_bipush dX11_comes_84 rfl rfl ?_
    exact q_iret dX11_comes_86 (qK_i (l1 c1))
  · skip
    refine q_aload_n dX11_comes_30 rfl rfl ?_
    refine q_getR (ci := 11) (k := 2) dX11_comes_31 rfl (by decide) rfl tw351 (by decide) qs0 qw0_2 (by decide) ?_
    refine q_iload_n dX11_comes_34 rfl rfl ?_
    refine q_iload_n dX11_comes_35 rfl rfl ?_
    refine q_aload_n dX11_comes_36 rfl rfl ?_
    refine q_getR (ci := 11) (k := 2) dX11_comes_37 rfl (by decide) rfl tw351 (by decide) qs0 qw0_2 (by decide) ?_
    refine q_getR (ci := 7) (k := 2) dX11_comes_40 rfl (by decide) rfl tw77 (by decide) qs14 qw14_2 (by decide) ?_
    refine q_iload_n dX11_comes_43 rfl rfl ?_
    refine qx_iald (v := (mem 17 j)) dX11_comes_44 qs17 (o2 c1) rfl ?_
    refine qx_invV (ci := 7) [(0, v), (0, j), (0, (mem 17 j))] [(0, (mem 17 j)), (0, j), (0, v), (2, 14)] rfl qM_X7_dropsFrom dX11_comes_45 tw969 rfl qs14 rfl rfl rfl rfl (l3 c1) (fun r2 m2 p2 q2 => ?_)
    refine qx_if_le (tgt := 53) dX11_comes_48 (by decide) (fun c3 => ?_) (fun c3 => ?_)
    · skip
      refine q_aload_n dX11_comes_53 rfl rfl ?_
      refine q_aload_n dX11_comes_54 rfl rfl ?_
      refine q_getR (ci := 11) (k := 2) dX11_comes_55 rfl (by decide) rfl tw351 (by decide) qs0 qw0_2 (by decide) ?_
      refine qx_invV (ci := 11) [(2, 14)] [(2, 14), (2, 0)] rfl qM_X11_isQuiet dX11_comes_58 tw997 rfl qs0 rfl rfl rfl rfl (l4 c1 r2 m2 p2 q2 c3) (fun r4 m4 p4 q4 => ?_)
      refine qx_if_eq (tgt := 67) dX11_comes_61 (by decide) (fun c5 => ?_) (fun c5 => ?_)
      · skip
        refine q_aload_n dX11_comes_67 rfl rfl ?_
        refine q_getR (ci := 11) (k := 3) dX11_comes_68 rfl (by decide) rfl tw352 (by decide) qs0 qw0_3 (by decide) ?_
        refine q_aload_n dX11_comes_71 rfl rfl ?_
        refine q_getR (ci := 11) (k := 2) dX11_comes_72 rfl (by decide) rfl tw351 (by decide) qs0 qw0_2 (by decide) ?_
        refine qx_invV (ci := 0) [(2, 14)] [(2, 14), (2, 23)] rfl qM_X0_strike dX11_comes_75 tw675 rfl qs23 rfl rfl rfl rfl (l5 c1 r2 m2 p2 q2 c3 r4 m4 p4 q4 c5) (fun r6 m6 p6 q6 => ?_)
        refine qx_iinc (L' := [(2, 0), (0, j), (0, v), (0, (v3 + 1))]) dX11_comes_78 rfl rfl rfl (o6 c1 r2 m2 p2 q2 c3 r4 m4 p4 q4 c5 r6 m6 p6 q6) rfl ?_
        refine q_goto (tgt := 23) dX11_comes_81 (by decide) ?_
        exact l7 c1 r2 m2 p2 q2 c3 r4 m4 p4 q4 c5 r6 m6 p6 q6
      · skip
        refine qx_bipush dX11_comes_64 rfl rfl ?_
        exact q_iret dX11_comes_66 (qK_i (l8 c1 r2 m2 p2 q2 c3 r4 m4 p4 q4 c5))
    · skip
      refine q_iload_n dX11_comes_51 rfl rfl ?_
      exact q_iret dX11_comes_52 (qK_i (l9 c1 r2 m2 p2 q2 c3))
theorem dX11_marks_0 : decode cX11_marks 0 = .ok (.aload_n 0, 1) := by decide +kernel
theorem dX11_marks_1 : decode cX11_marks 1 = .ok (.iload_n 1, 1) := by decide +kernel
theorem dX11_marks_2 : decode cX11_marks 2 = .ok (.invokevirtual 131, 3) := by decide +kernel
theorem dX11_marks_5 : decode cX11_marks 5 = .ok (.ifCond .ne 5, 3) := by decide +kernel
theorem dX11_marks_8 : decode cX11_marks 8 = .ok (.iconst (-1), 1) := by decide +kernel
theorem dX11_marks_9 : decode cX11_marks 9 = .ok (.ireturn, 1) := by decide +kernel
theorem dX11_marks_10 : decode cX11_marks 10 = .ok (.aload_n 0, 1) := by decide +kernel
theorem dX11_marks_11 : decode cX11_marks 11 = .ok (.invokevirtual 364, 3) := by decide +kernel
theorem dX11_marks_14 : decode cX11_marks 14 = .ok (.iconst 0, 1) := by decide +kernel
theorem dX11_marks_15 : decode cX11_marks 15 = .ok (.istore_n 2, 1) := by decide +kernel
theorem dX11_marks_16 : decode cX11_marks 16 = .ok (.iload_n 2, 1) := by decide +kernel
theorem dX11_marks_17 : decode cX11_marks 17 = .ok (.aload_n 0, 1) := by decide +kernel
theorem dX11_marks_18 : decode cX11_marks 18 = .ok (.getfield 10, 3) := by decide +kernel
theorem dX11_marks_21 : decode cX11_marks 21 = .ok (.getfield 173, 3) := by decide +kernel
theorem dX11_marks_24 : decode cX11_marks 24 = .ok (.if_icmp .ge 27, 3) := by decide +kernel
theorem dX11_marks_27 : decode cX11_marks 27 = .ok (.aload_n 0, 1) := by decide +kernel
theorem dX11_marks_28 : decode cX11_marks 28 = .ok (.getfield 23, 3) := by decide +kernel
theorem dX11_marks_31 : decode cX11_marks 31 = .ok (.iload_n 2, 1) := by decide +kernel
theorem dX11_marks_32 : decode cX11_marks 32 = .ok (.iload_n 2, 1) := by decide +kernel
theorem dX11_marks_33 : decode cX11_marks 33 = .ok (.iload_n 1, 1) := by decide +kernel
theorem dX11_marks_34 : decode cX11_marks 34 = .ok (.if_icmp .ne 7, 3) := by decide +kernel
theorem dX11_marks_37 : decode cX11_marks 37 = .ok (.iconst 1, 1) := by decide +kernel
theorem dX11_marks_38 : decode cX11_marks 38 = .ok (.goto 4, 3) := by decide +kernel
theorem dX11_marks_41 : decode cX11_marks 41 = .ok (.iconst 0, 1) := by decide +kernel
theorem dX11_marks_42 : decode cX11_marks 42 = .ok (.invokevirtual 370, 3) := by decide +kernel
theorem dX11_marks_45 : decode cX11_marks 45 = .ok (.iinc 2 1, 3) := by decide +kernel
theorem dX11_marks_48 : decode cX11_marks 48 = .ok (.goto (-32), 3) := by decide +kernel
theorem dX11_marks_51 : decode cX11_marks 51 = .ok (.aload_n 0, 1) := by decide +kernel
theorem dX11_marks_52 : decode cX11_marks 52 = .ok (.getfield 23, 3) := by decide +kernel
theorem dX11_marks_55 : decode cX11_marks 55 = .ok (.getfield 373, 3) := by decide +kernel
theorem dX11_marks_58 : decode cX11_marks 58 = .ok (.iconst 1, 1) := by decide +kernel
theorem dX11_marks_59 : decode cX11_marks 59 = .ok (.iaload, 1) := by decide +kernel
theorem dX11_marks_60 : decode cX11_marks 60 = .ok (.istore_n 2, 1) := by decide +kernel
theorem dX11_marks_61 : decode cX11_marks 61 = .ok (.iconst 0, 1) := by decide +kernel
theorem dX11_marks_62 : decode cX11_marks 62 = .ok (.istore_n 3, 1) := by decide +kernel
theorem dX11_marks_63 : decode cX11_marks 63 = .ok (.iload_n 3, 1) := by decide +kernel
theorem dX11_marks_64 : decode cX11_marks 64 = .ok (.sipush 6000, 3) := by decide +kernel
theorem dX11_marks_67 : decode cX11_marks 67 = .ok (.if_icmp .ge 31, 3) := by decide +kernel
theorem dX11_marks_70 : decode cX11_marks 70 = .ok (.aload_n 0, 1) := by decide +kernel
theorem dX11_marks_71 : decode cX11_marks 71 = .ok (.aload_n 0, 1) := by decide +kernel
theorem dX11_marks_72 : decode cX11_marks 72 = .ok (.getfield 23, 3) := by decide +kernel
theorem dX11_marks_75 : decode cX11_marks 75 = .ok (.invokevirtual 367, 3) := by decide +kernel
theorem dX11_marks_78 : decode cX11_marks 78 = .ok (.ifCond .ne 20, 3) := by decide +kernel
theorem dX11_marks_81 : decode cX11_marks 81 = .ok (.aload_n 0, 1) := by decide +kernel
theorem dX11_marks_82 : decode cX11_marks 82 = .ok (.getfield 31, 3) := by decide +kernel
theorem dX11_marks_85 : decode cX11_marks 85 = .ok (.aload_n 0, 1) := by decide +kernel
theorem dX11_marks_86 : decode cX11_marks 86 = .ok (.getfield 23, 3) := by decide +kernel
theorem dX11_marks_89 : decode cX11_marks 89 = .ok (.invokevirtual 220, 3) := by decide +kernel
theorem dX11_marks_92 : decode cX11_marks 92 = .ok (.iinc 3 1, 3) := by decide +kernel
theorem dX11_marks_95 : decode cX11_marks 95 = .ok (.goto (-32), 3) := by decide +kernel
theorem dX11_marks_98 : decode cX11_marks 98 = .ok (.aload_n 0, 1) := by decide +kernel
theorem dX11_marks_99 : decode cX11_marks 99 = .ok (.invokevirtual 223, 3) := by decide +kernel
theorem dX11_marks_102 : decode cX11_marks 102 = .ok (.iconst 0, 1) := by decide +kernel
theorem dX11_marks_103 : decode cX11_marks 103 = .ok (.istore_n 3, 1) := by decide +kernel
theorem dX11_marks_104 : decode cX11_marks 104 = .ok (.iload_n 3, 1) := by decide +kernel
theorem dX11_marks_105 : decode cX11_marks 105 = .ok (.aload_n 0, 1) := by decide +kernel
theorem dX11_marks_106 : decode cX11_marks 106 = .ok (.getfield 10, 3) := by decide +kernel
theorem dX11_marks_109 : decode cX11_marks 109 = .ok (.getfield 173, 3) := by decide +kernel
theorem dX11_marks_112 : decode cX11_marks 112 = .ok (.if_icmp .ge 31, 3) := by decide +kernel
theorem dX11_marks_115 : decode cX11_marks 115 = .ok (.aload_n 0, 1) := by decide +kernel
theorem dX11_marks_116 : decode cX11_marks 116 = .ok (.aload_n 0, 1) := by decide +kernel
theorem dX11_marks_117 : decode cX11_marks 117 = .ok (.getfield 23, 3) := by decide +kernel
theorem dX11_marks_120 : decode cX11_marks 120 = .ok (.iconst 1, 1) := by decide +kernel
theorem dX11_marks_121 : decode cX11_marks 121 = .ok (.iload_n 3, 1) := by decide +kernel
theorem dX11_marks_122 : decode cX11_marks 122 = .ok (.aload_n 0, 1) := by decide +kernel
theorem dX11_marks_123 : decode cX11_marks 123 = .ok (.getfield 23, 3) := by decide +kernel
theorem dX11_marks_126 : decode cX11_marks 126 = .ok (.getfield 142, 3) := by decide +kernel
theorem dX11_marks_129 : decode cX11_marks 129 = .ok (.iload_n 3, 1) := by decide +kernel
theorem dX11_marks_130 : decode cX11_marks 130 = .ok (.iaload, 1) := by decide +kernel
theorem dX11_marks_131 : decode cX11_marks 131 = .ok (.invokevirtual 361, 3) := by decide +kernel
theorem dX11_marks_134 : decode cX11_marks 134 = .ok (.invokevirtual 229, 3) := by decide +kernel
theorem dX11_marks_137 : decode cX11_marks 137 = .ok (.iinc 3 1, 3) := by decide +kernel
theorem dX11_marks_140 : decode cX11_marks 140 = .ok (.goto (-36), 3) := by decide +kernel
theorem dX11_marks_143 : decode cX11_marks 143 = .ok (.aload_n 0, 1) := by decide +kernel
theorem dX11_marks_144 : decode cX11_marks 144 = .ok (.getfield 23, 3) := by decide +kernel
theorem dX11_marks_147 : decode cX11_marks 147 = .ok (.getfield 373, 3) := by decide +kernel
theorem dX11_marks_150 : decode cX11_marks 150 = .ok (.iconst 1, 1) := by decide +kernel
theorem dX11_marks_151 : decode cX11_marks 151 = .ok (.iaload, 1) := by decide +kernel
theorem dX11_marks_152 : decode cX11_marks 152 = .ok (.iload_n 2, 1) := by decide +kernel
theorem dX11_marks_153 : decode cX11_marks 153 = .ok (.isub, 1) := by decide +kernel
theorem dX11_marks_154 : decode cX11_marks 154 = .ok (.ireturn, 1) := by decide +kernel
theorem bkX11_marks_0 {b : Int} {mem : qm} {Q : Int → qm → Prop}
    {j : Int}
    {P2 : Int → qm → Prop}
    (l1 : (0 ≤ j ∧ j < (mem 1 3)) → q_Ev yX11_tryAsNow cX11_tryAsNow 1 none 2 0 0 [(2, 0)] (q_sh0, q_rb b, mem) (qK (q_rb b) (P2)))
    (l2 : (0 ≤ j ∧ j < (mem 1 3)) → ∀ (r2 : Int), ∀ (m2 : qm), P2 r2 m2 → q_in32 r2 → q_At yX11_marks cX11_marks 4 (some .int) 5 0 0 (qK (q_rb b) Q) 16 [(2, 0), (0, j), (0, 0), (4, 0)] [] (q_sh0, q_rb b, m2))
    (l3 : ¬ (0 ≤ j ∧ j < (mem 1 3)) → Q (-1) mem) :
    q_At yX11_marks cX11_marks 4 (some .int) 5 0 0 (qK (q_rb b) Q) 0 [(2, 0), (0, j), (4, 0), (4, 0)] [] (q_sh0, q_rb b, mem) := by
  refine q_aload_n dX11_marks_0 rfl rfl ?_
  refine q_iload_n dX11_marks_1 rfl rfl ?_
  refine qx_invV (ci := 11) [(0, j)] [(0, j), (2, 0)] rfl qM_X11_isJar dX11_marks_2 tw576 rfl qs0 rfl rfl rfl rfl (spX11_isJar) (fun r1 m1 p1 q1 => ?_)
  obtain ⟨p1e, ⟨p1f, p1⟩ | ⟨p1f, p1⟩⟩ := p1
  · rw [p1e, p1f]
    refine qx_if_ne (tgt := 10) dX11_marks_5 (by decide) (fun _ => ?_) (fun z => absurd z (by decide))
    refine q_aload_n dX11_marks_10 rfl rfl ?_
    refine qx_invV (ci := 11) [] [(2, 0)] rfl qM_X11_tryAsNow dX11_marks_11 tw989 rfl qs0 rfl rfl rfl rfl (l1 p1) (fun r2 m2 p2 q2 => ?_)
    refine qx_iconst dX11_marks_14 rfl rfl ?_
    refine qx_istore_n (L' := [(2, 0), (0, j), (0, 0), (4, 0)]) dX11_marks_15 rfl rfl rfl rfl ?_
    exact l2 p1 r2 m2 p2 q2
  · rw [p1e, p1f]
    refine qx_if_ne (tgt := 10) dX11_marks_5 (by decide) (fun z => absurd z (by decide)) (fun _ => ?_)
    refine qx_iconst dX11_marks_8 rfl rfl ?_
    exact q_iret dX11_marks_9 (qK_i (l3 p1))
theorem bkX11_marks_16 {b : Int} {mem : qm} {Q : Int → qm → Prop}
    {j v2 : Int}
    (o1 : (mem 1 3) ≤ v2 → ((0 : Int) ≤ 1 ∧ (1 : Int) < 7))
    (l2 : (mem 1 3) ≤ v2 → q_At yX11_marks cX11_marks 4 (some .int) 5 0 0 (qK (q_rb b) Q) 63 [(2, 0), (0, j), (0, (mem 22 1)), (0, 0)] [] (q_sh0, q_rb b, mem))
    {P3 : Int → qm → Prop}
    (l3 : v2 < (mem 1 3) → v2 ≠ j → q_Ev yX7_mark cX7_mark 4 none 2 0 0 [(2, 14), (0, v2), (0, 0)] (q_sh0, q_rb b, mem) (qK (q_rb b) (P3)))
    (o4 : v2 < (mem 1 3) → v2 ≠ j → ∀ (r3 : Int), ∀ (m3 : qm), P3 r3 m3 → q_in32 r3 → q_in32 (v2 + 1))
    (l5 : v2 < (mem 1 3) → v2 ≠ j → ∀ (r3 : Int), ∀ (m3 : qm), P3 r3 m3 → q_in32 r3 → q_At yX11_marks cX11_marks 4 (some .int) 5 0 0 (qK (q_rb b) Q) 16 [(2, 0), (0, j), (0, (v2 + 1)), (4, 0)] [] (q_sh0, q_rb b, m3))
    {P4 : Int → qm → Prop}
    (l6 : v2 < (mem 1 3) → v2 = j → q_Ev yX7_mark cX7_mark 4 none 2 0 0 [(2, 14), (0, v2), (0, 1)] (q_sh0, q_rb b, mem) (qK (q_rb b) (P4)))
    (o7 : v2 < (mem 1 3) → v2 = j → ∀ (r4 : Int), ∀ (m4 : qm), P4 r4 m4 → q_in32 r4 → q_in32 (v2 + 1))
    (l8 : v2 < (mem 1 3) → v2 = j → ∀ (r4 : Int), ∀ (m4 : qm), P4 r4 m4 → q_in32 r4 → q_At yX11_marks cX11_marks 4 (some .int) 5 0 0 (qK (q_rb b) Q) 16 [(2, 0), (0, j), (0, (v2 + 1)), (4, 0)] [] (q_sh0, q_rb b, m4)) :
    q_At yX11_marks cX11_marks 4 (some .int) 5 0 0 (qK (q_rb b) Q) 16 [(2, 0), (0, j), (0, v2), (4, 0)] [] (q_sh0, q_rb b, mem) := by
  refine q_iload_n dX11_marks_16 rfl rfl ?_
  refine q_aload_n dX11_marks_17 rfl rfl ?_
  refine q_getR (ci := 11) (k := 0) dX11_marks_18 rfl (by decide) rfl tw349 (by decide) qs0 qw0_0 (by decide) ?_
  refine qx_getI (ci := 9) (k := 3) (v := (mem 1 3)) dX11_marks_21 rfl rfl rfl tw53 rfl qs1 rfl ?_
  refine qx_icmp_ge (tgt := 51) dX11_marks_24 (by decide) (fun c1 => ?_) (fun c1 => ?_)
  · skip
    refine q_aload_n dX11_marks_51 rfl rfl ?_
    refine q_getR (ci := 11) (k := 2) dX11_marks_52 rfl (by decide) rfl tw351 (by decide) qs0 qw0_2 (by decide) ?_
    refine q_getR (ci := 7) (k := 7) dX11_marks_55 rfl (by decide) rfl tw100 (by decide) qs14 qw14_7 (by decide) ?_
    refine qx_iconst dX11_marks_58 rfl rfl ?_
    refine qx_iald (v := (mem 22 1)) dX11_marks_59 qs22 (o1 c1) rfl ?_
    refine qx_istore_n (L' := [(2, 0), (0, j), (0, (mem 22 1)), (4, 0)]) dX11_marks_60 rfl rfl rfl rfl ?_
    refine qx_iconst dX11_marks_61 rfl rfl ?_
    refine qx_istore_n (L' := [(2, 0), (0, j), (0, (mem 22 1)), (0, 0)]) dX11_marks_62 rfl rfl rfl rfl ?_
    exact l2 c1
  · skip
    refine q_aload_n dX11_marks_27 rfl rfl ?_
    refine q_getR (ci := 11) (k := 2) dX11_marks_28 rfl (by decide) rfl tw351 (by decide) qs0 qw0_2 (by decide) ?_
    refine q_iload_n dX11_marks_31 rfl rfl ?_
    refine q_iload_n dX11_marks_32 rfl rfl ?_
    refine q_iload_n dX11_marks_33 rfl rfl ?_
    refine qx_icmp_ne (tgt := 41) dX11_marks_34 (by decide) (fun c2 => ?_) (fun c2 => ?_)
    · skip
      refine qx_iconst dX11_marks_41 rfl rfl ?_
      refine qx_invV (ci := 7) [(0, v2), (0, 0)] [(0, 0), (0, v2), (2, 14)] rfl qM_X7_mark dX11_marks_42 tw1005 rfl qs14 rfl rfl rfl rfl (l3 c1 c2) (fun r3 m3 p3 q3 => ?_)
      refine qx_iinc (L' := [(2, 0), (0, j), (0, (v2 + 1)), (4, 0)]) dX11_marks_45 rfl rfl rfl (o4 c1 c2 r3 m3 p3 q3) rfl ?_
      refine q_goto (tgt := 16) dX11_marks_48 (by decide) ?_
      exact l5 c1 c2 r3 m3 p3 q3
    · skip
      refine qx_iconst dX11_marks_37 rfl rfl ?_
      refine q_goto (tgt := 42) dX11_marks_38 (by decide) ?_
      refine qx_invV (ci := 7) [(0, v2), (0, 1)] [(0, 1), (0, v2), (2, 14)] rfl qM_X7_mark dX11_marks_42 tw1005 rfl qs14 rfl rfl rfl rfl (l6 c1 c2) (fun r4 m4 p4 q4 => ?_)
      refine qx_iinc (L' := [(2, 0), (0, j), (0, (v2 + 1)), (4, 0)]) dX11_marks_45 rfl rfl rfl (o7 c1 c2 r4 m4 p4 q4) rfl ?_
      refine q_goto (tgt := 16) dX11_marks_48 (by decide) ?_
      exact l8 c1 c2 r4 m4 p4 q4
theorem bkX11_marks_63 {b : Int} {mem : qm} {Q : Int → qm → Prop}
    {j v2 v3 : Int}
    (l1 : 6000 ≤ v3 → q_At yX11_marks cX11_marks 4 (some .int) 5 0 0 (qK (q_rb b) Q) 104 [(2, 0), (0, j), (0, v2), (0, 0)] [] (q_sh0, q_rb b, (q_up mem 0 16 0)))
    {P3 : Int → qm → Prop}
    (l2 : v3 < 6000 → q_Ev yX11_isQuiet cX11_isQuiet 3 (some .boolean) 1 0 0 [(2, 0), (2, 14)] (q_sh0, q_rb b, mem) (qK (q_rb b) (P3)))
    (l3 : v3 < 6000 → ∀ (r3 : Int), ∀ (m3 : qm), P3 r3 m3 → q_in32 r3 → r3 ≠ 0 → q_At yX11_marks cX11_marks 4 (some .int) 5 0 0 (qK (q_rb b) Q) 104 [(2, 0), (0, j), (0, v2), (0, 0)] [] (q_sh0, q_rb b, (q_up m3 0 16 0)))
    {P6 : Int → qm → Int → qm → Prop}
    (l4 : v3 < 6000 → ∀ (r3 : Int), ∀ (m3 : qm), P3 r3 m3 → q_in32 r3 → r3 = 0 → q_Ev yX0_strike cX0_strike 3 none 4 0 0 [(2, 23), (2, 14)] (q_sh0, q_rb b, m3) (qK (q_rb b) (P6 r3 m3)))
    (o5 : v3 < 6000 → ∀ (r3 : Int), ∀ (m3 : qm), P3 r3 m3 → q_in32 r3 → r3 = 0 → ∀ (r6 : Int), ∀ (m6 : qm), P6 r3 m3 r6 m6 → q_in32 r6 → q_in32 (v3 + 1))
    (l6 : v3 < 6000 → ∀ (r3 : Int), ∀ (m3 : qm), P3 r3 m3 → q_in32 r3 → r3 = 0 → ∀ (r6 : Int), ∀ (m6 : qm), P6 r3 m3 r6 m6 → q_in32 r6 → q_At yX11_marks cX11_marks 4 (some .int) 5 0 0 (qK (q_rb b) Q) 63 [(2, 0), (0, j), (0, v2), (0, (v3 + 1))] [] (q_sh0, q_rb b, m6)) :
    q_At yX11_marks cX11_marks 4 (some .int) 5 0 0 (qK (q_rb b) Q) 63 [(2, 0), (0, j), (0, v2), (0, v3)] [] (q_sh0, q_rb b, mem) := by
  refine q_iload_n dX11_marks_63 rfl rfl ?_
  refine qx_sipush dX11_marks_64 rfl rfl ?_
  refine qx_icmp_ge (tgt := 98) dX11_marks_67 (by decide) (fun c1 => ?_) (fun c1 => ?_)
  · skip
    refine q_aload_n dX11_marks_98 rfl rfl ?_
    refine qx_invV (ci := 11) [] [(2, 0)] rfl qM_X11_clearRow dX11_marks_99 tw691 rfl qs0 rfl rfl rfl rfl (spX11_clearRow) (fun r2 m2 p2 q2 => ?_)
    obtain rfl := p2
    refine qx_iconst dX11_marks_102 rfl rfl ?_
    refine qx_istore_n (L' := [(2, 0), (0, j), (0, v2), (0, 0)]) dX11_marks_103 rfl rfl rfl rfl ?_
    exact l1 c1
  · skip
    refine q_aload_n dX11_marks_70 rfl rfl ?_
    refine q_aload_n dX11_marks_71 rfl rfl ?_
    refine q_getR (ci := 11) (k := 2) dX11_marks_72 rfl (by decide) rfl tw351 (by decide) qs0 qw0_2 (by decide) ?_
    refine qx_invV (ci := 11) [(2, 14)] [(2, 14), (2, 0)] rfl qM_X11_isQuiet dX11_marks_75 tw997 rfl qs0 rfl rfl rfl rfl (l2 c1) (fun r3 m3 p3 q3 => ?_)
    refine qx_if_ne (tgt := 98) dX11_marks_78 (by decide) (fun c4 => ?_) (fun c4 => ?_)
    · skip
      refine q_aload_n dX11_marks_98 rfl rfl ?_
      refine qx_invV (ci := 11) [] [(2, 0)] rfl qM_X11_clearRow dX11_marks_99 tw691 rfl qs0 rfl rfl rfl rfl (spX11_clearRow) (fun r5 m5 p5 q5 => ?_)
      obtain rfl := p5
      refine qx_iconst dX11_marks_102 rfl rfl ?_
      refine qx_istore_n (L' := [(2, 0), (0, j), (0, v2), (0, 0)]) dX11_marks_103 rfl rfl rfl rfl ?_
      exact l3 c1 r3 m3 p3 q3 c4
    · skip
      refine q_aload_n dX11_marks_81 rfl rfl ?_
      refine q_getR (ci := 11) (k := 3) dX11_marks_82 rfl (by decide) rfl tw352 (by decide) qs0 qw0_3 (by decide) ?_
      refine q_aload_n dX11_marks_85 rfl rfl ?_
      refine q_getR (ci := 11) (k := 2) dX11_marks_86 rfl (by decide) rfl tw351 (by decide) qs0 qw0_2 (by decide) ?_
      refine qx_invV (ci := 0) [(2, 14)] [(2, 14), (2, 23)] rfl qM_X0_strike dX11_marks_89 tw675 rfl qs23 rfl rfl rfl rfl (l4 c1 r3 m3 p3 q3 c4) (fun r6 m6 p6 q6 => ?_)
      refine qx_iinc (L' := [(2, 0), (0, j), (0, v2), (0, (v3 + 1))]) dX11_marks_92 rfl rfl rfl (o5 c1 r3 m3 p3 q3 c4 r6 m6 p6 q6) rfl ?_
      refine q_goto (tgt := 63) dX11_marks_95 (by decide) ?_
      exact l6 c1 r3 m3 p3 q3 c4 r6 m6 p6 q6
theorem bkX11_marks_104 {b : Int} {mem : qm} {Q : Int → qm → Prop}
    {j v2 v3 : Int}
    (o1 : (mem 1 3) ≤ v3 → ((0 : Int) ≤ 1 ∧ (1 : Int) < 7) ∧ q_in32 ((mem 22 1) - v2))
    (l2 : (mem 1 3) ≤ v3 → Q ((mem 22 1) - v2) mem)
    (o3 : v3 < (mem 1 3) → (0 ≤ v3 ∧ v3 < 9))
    {P2 : Int → qm → Prop}
    (l4 : v3 < (mem 1 3) → q_Ev yX7_dropsFrom cX7_dropsFrom 6 (some .int) 3 0 0 [(2, 14), (0, 1), (0, v3), (0, (mem 17 v3))] (q_sh0, q_rb b, mem) (qK (q_rb b) (P2)))
    (o5 : v3 < (mem 1 3) → ∀ (r2 : Int), ∀ (m2 : qm), P2 r2 m2 → q_in32 r2 → (0 ≤ (m2 0 16) ∧ (m2 0 16) < 10) ∧ q_in32 (v3 + 1))
    (l6 : v3 < (mem 1 3) → ∀ (r2 : Int), ∀ (m2 : qm), P2 r2 m2 → q_in32 r2 → q_At yX11_marks cX11_marks 4 (some .int) 5 0 0 (qK (q_rb b) Q) 104 [(2, 0), (0, j), (0, v2), (0, (v3 + 1))] [] (q_sh0, q_rb b, (q_up (q_up m2 169 (m2 0 16) r2) 0 16 ((m2 0 16) + 1)))) :
    q_At yX11_marks cX11_marks 4 (some .int) 5 0 0 (qK (q_rb b) Q) 104 [(2, 0), (0, j), (0, v2), (0, v3)] [] (q_sh0, q_rb b, mem) := by
  refine q_iload_n dX11_marks_104 rfl rfl ?_
  refine q_aload_n dX11_marks_105 rfl rfl ?_
  refine q_getR (ci := 11) (k := 0) dX11_marks_106 rfl (by decide) rfl tw349 (by decide) qs0 qw0_0 (by decide) ?_
  refine qx_getI (ci := 9) (k := 3) (v := (mem 1 3)) dX11_marks_109 rfl rfl rfl tw53 rfl qs1 rfl ?_
  refine qx_icmp_ge (tgt := 143) dX11_marks_112 (by decide) (fun c1 => ?_) (fun c1 => ?_)
  · skip
    refine q_aload_n dX11_marks_143 rfl rfl ?_
    refine q_getR (ci := 11) (k := 2) dX11_marks_144 rfl (by decide) rfl tw351 (by decide) qs0 qw0_2 (by decide) ?_
    refine q_getR (ci := 7) (k := 7) dX11_marks_147 rfl (by decide) rfl tw100 (by decide) qs14 qw14_7 (by decide) ?_
    refine qx_iconst dX11_marks_150 rfl rfl ?_
    refine qx_iald (v := (mem 22 1)) dX11_marks_151 qs22 (o1 c1).1 rfl ?_
    refine q_iload_n dX11_marks_152 rfl rfl ?_
    refine qx_isub dX11_marks_153 (o1 c1).2 ?_
    exact q_iret dX11_marks_154 (qK_i (l2 c1))
  · skip
    refine q_aload_n dX11_marks_115 rfl rfl ?_
    refine q_aload_n dX11_marks_116 rfl rfl ?_
    refine q_getR (ci := 11) (k := 2) dX11_marks_117 rfl (by decide) rfl tw351 (by decide) qs0 qw0_2 (by decide) ?_
    refine qx_iconst dX11_marks_120 rfl rfl ?_
    refine q_iload_n dX11_marks_121 rfl rfl ?_
    refine q_aload_n dX11_marks_122 rfl rfl ?_
    refine q_getR (ci := 11) (k := 2) dX11_marks_123 rfl (by decide) rfl tw351 (by decide) qs0 qw0_2 (by decide) ?_
    refine q_getR (ci := 7) (k := 2) dX11_marks_126 rfl (by decide) rfl tw77 (by decide) qs14 qw14_2 (by decide) ?_
    refine q_iload_n dX11_marks_129 rfl rfl ?_
    refine qx_iald (v := (mem 17 v3)) dX11_marks_130 qs17 (o3 c1) rfl ?_
    refine qx_invV (ci := 7) [(0, 1), (0, v3), (0, (mem 17 v3))] [(0, (mem 17 v3)), (0, v3), (0, 1), (2, 14), (2, 0)] rfl qM_X7_dropsFrom dX11_marks_131 tw969 rfl qs14 rfl rfl rfl rfl (l4 c1) (fun r2 m2 p2 q2 => ?_)
    refine qx_invV (ci := 11) [(0, r2)] [(0, r2), (2, 0)] rfl qM_X11_tell dX11_marks_134 tw699 rfl qs0 rfl rfl rfl rfl (spX11_tell (o5 c1 r2 m2 p2 q2).1) (fun r3 m3 p3 q3 => ?_)
    obtain rfl := p3
    refine qx_iinc (L' := [(2, 0), (0, j), (0, v2), (0, (v3 + 1))]) dX11_marks_137 rfl rfl rfl (o5 c1 r2 m2 p2 q2).2 rfl ?_
    refine q_goto (tgt := 104) dX11_marks_140 (by decide) ?_
    exact l6 c1 r2 m2 p2 q2
theorem dX11_tax_0 : decode cX11_tax 0 = .ok (.iload_n 1, 1) := by decide +kernel
theorem dX11_tax_1 : decode cX11_tax 1 = .ok (.invokestatic 214, 3) := by decide +kernel
theorem dX11_tax_4 : decode cX11_tax 4 = .ok (.ifCond .ne 5, 3) := by decide +kernel
theorem dX11_tax_7 : decode cX11_tax 7 = .ok (.iconst (-1), 1) := by decide +kernel
theorem dX11_tax_8 : decode cX11_tax 8 = .ok (.ireturn, 1) := by decide +kernel
theorem dX11_tax_9 : decode cX11_tax 9 = .ok (.aload_n 0, 1) := by decide +kernel
theorem dX11_tax_10 : decode cX11_tax 10 = .ok (.invokevirtual 364, 3) := by decide +kernel
theorem dX11_tax_13 : decode cX11_tax 13 = .ok (.iconst 0, 1) := by decide +kernel
theorem dX11_tax_14 : decode cX11_tax 14 = .ok (.istore_n 2, 1) := by decide +kernel
theorem dX11_tax_15 : decode cX11_tax 15 = .ok (.iload_n 2, 1) := by decide +kernel
theorem dX11_tax_16 : decode cX11_tax 16 = .ok (.iload_n 1, 1) := by decide +kernel
theorem dX11_tax_17 : decode cX11_tax 17 = .ok (.if_icmp .ge 31, 3) := by decide +kernel
theorem dX11_tax_20 : decode cX11_tax 20 = .ok (.aload_n 0, 1) := by decide +kernel
theorem dX11_tax_21 : decode cX11_tax 21 = .ok (.aload_n 0, 1) := by decide +kernel
theorem dX11_tax_22 : decode cX11_tax 22 = .ok (.getfield 23, 3) := by decide +kernel
theorem dX11_tax_25 : decode cX11_tax 25 = .ok (.invokevirtual 367, 3) := by decide +kernel
theorem dX11_tax_28 : decode cX11_tax 28 = .ok (.ifCond .ne 20, 3) := by decide +kernel
theorem dX11_tax_31 : decode cX11_tax 31 = .ok (.aload_n 0, 1) := by decide +kernel
theorem dX11_tax_32 : decode cX11_tax 32 = .ok (.getfield 31, 3) := by decide +kernel
theorem dX11_tax_35 : decode cX11_tax 35 = .ok (.aload_n 0, 1) := by decide +kernel
theorem dX11_tax_36 : decode cX11_tax 36 = .ok (.getfield 23, 3) := by decide +kernel
theorem dX11_tax_39 : decode cX11_tax 39 = .ok (.invokevirtual 220, 3) := by decide +kernel
theorem dX11_tax_42 : decode cX11_tax 42 = .ok (.iinc 2 1, 3) := by decide +kernel
theorem dX11_tax_45 : decode cX11_tax 45 = .ok (.goto (-30), 3) := by decide +kernel
theorem dX11_tax_48 : decode cX11_tax 48 = .ok (.aload_n 0, 1) := by decide +kernel
theorem dX11_tax_49 : decode cX11_tax 49 = .ok (.invokevirtual 223, 3) := by decide +kernel
theorem dX11_tax_52 : decode cX11_tax 52 = .ok (.iconst 0, 1) := by decide +kernel
theorem dX11_tax_53 : decode cX11_tax 53 = .ok (.istore_n 2, 1) := by decide +kernel
theorem dX11_tax_54 : decode cX11_tax 54 = .ok (.iload_n 2, 1) := by decide +kernel
theorem dX11_tax_55 : decode cX11_tax 55 = .ok (.bipush 7, 2) := by decide +kernel
theorem dX11_tax_57 : decode cX11_tax 57 = .ok (.if_icmp .ge 32, 3) := by decide +kernel
theorem dX11_tax_60 : decode cX11_tax 60 = .ok (.aload_n 0, 1) := by decide +kernel
theorem dX11_tax_61 : decode cX11_tax 61 = .ok (.aload_n 0, 1) := by decide +kernel
theorem dX11_tax_62 : decode cX11_tax 62 = .ok (.getfield 23, 3) := by decide +kernel
theorem dX11_tax_65 : decode cX11_tax 65 = .ok (.getfield 373, 3) := by decide +kernel
theorem dX11_tax_68 : decode cX11_tax 68 = .ok (.iload_n 2, 1) := by decide +kernel
theorem dX11_tax_69 : decode cX11_tax 69 = .ok (.iaload, 1) := by decide +kernel
theorem dX11_tax_70 : decode cX11_tax 70 = .ok (.aload_n 0, 1) := by decide +kernel
theorem dX11_tax_71 : decode cX11_tax 71 = .ok (.getfield 19, 3) := by decide +kernel
theorem dX11_tax_74 : decode cX11_tax 74 = .ok (.getfield 373, 3) := by decide +kernel
theorem dX11_tax_77 : decode cX11_tax 77 = .ok (.iload_n 2, 1) := by decide +kernel
theorem dX11_tax_78 : decode cX11_tax 78 = .ok (.iaload, 1) := by decide +kernel
theorem dX11_tax_79 : decode cX11_tax 79 = .ok (.isub, 1) := by decide +kernel
theorem dX11_tax_80 : decode cX11_tax 80 = .ok (.invokevirtual 229, 3) := by decide +kernel
theorem dX11_tax_83 : decode cX11_tax 83 = .ok (.iinc 2 1, 3) := by decide +kernel
theorem dX11_tax_86 : decode cX11_tax 86 = .ok (.goto (-32), 3) := by decide +kernel
theorem dX11_tax_89 : decode cX11_tax 89 = .ok (.aload_n 0, 1) := by decide +kernel
theorem dX11_tax_90 : decode cX11_tax 90 = .ok (.getfield 23, 3) := by decide +kernel
theorem dX11_tax_93 : decode cX11_tax 93 = .ok (.invokevirtual 217, 3) := by decide +kernel
theorem dX11_tax_96 : decode cX11_tax 96 = .ok (.aload_n 0, 1) := by decide +kernel
theorem dX11_tax_97 : decode cX11_tax 97 = .ok (.getfield 19, 3) := by decide +kernel
theorem dX11_tax_100 : decode cX11_tax 100 = .ok (.invokevirtual 217, 3) := by decide +kernel
theorem dX11_tax_103 : decode cX11_tax 103 = .ok (.isub, 1) := by decide +kernel
theorem dX11_tax_104 : decode cX11_tax 104 = .ok (.ireturn, 1) := by decide +kernel
theorem bkX11_tax_0 {b : Int} {mem : qm} {Q : Int → qm → Prop}
    {v : Int}
    {P2 : Int → qm → Prop}
    (l1 : (0 ≤ v ∧ v ≤ 200) → q_Ev yX11_tryAsNow cX11_tryAsNow 1 none 2 0 0 [(2, 0)] (q_sh0, q_rb b, mem) (qK (q_rb b) (P2)))
    (l2 : (0 ≤ v ∧ v ≤ 200) → ∀ (r2 : Int), ∀ (m2 : qm), P2 r2 m2 → q_in32 r2 → q_At yX11_tax cX11_tax 3 (some .int) 5 0 0 (qK (q_rb b) Q) 15 [(2, 0), (0, v), (0, 0)] [] (q_sh0, q_rb b, m2))
    (l3 : ¬ (0 ≤ v ∧ v ≤ 200) → Q (-1) mem) :
    q_At yX11_tax cX11_tax 3 (some .int) 5 0 0 (qK (q_rb b) Q) 0 [(2, 0), (0, v), (4, 0)] [] (q_sh0, q_rb b, mem) := by
  refine q_iload_n dX11_tax_0 rfl rfl ?_
  refine qx_invS [(0, v)] [(0, v)] rfl qM_X11_isSpan dX11_tax_1 tw668 rfl rfl rfl rfl (spX11_isSpan) (fun r1 m1 p1 q1 => ?_)
  obtain ⟨p1e, ⟨p1f, p1⟩ | ⟨p1f, p1⟩⟩ := p1
  · rw [p1e, p1f]
    refine qx_if_ne (tgt := 9) dX11_tax_4 (by decide) (fun _ => ?_) (fun z => absurd z (by decide))
    refine q_aload_n dX11_tax_9 rfl rfl ?_
    refine qx_invV (ci := 11) [] [(2, 0)] rfl qM_X11_tryAsNow dX11_tax_10 tw989 rfl qs0 rfl rfl rfl rfl (l1 p1) (fun r2 m2 p2 q2 => ?_)
    refine qx_iconst dX11_tax_13 rfl rfl ?_
    refine qx_istore_n (L' := [(2, 0), (0, v), (0, 0)]) dX11_tax_14 rfl rfl rfl rfl ?_
    exact l2 p1 r2 m2 p2 q2
  · rw [p1e, p1f]
    refine qx_if_ne (tgt := 9) dX11_tax_4 (by decide) (fun z => absurd z (by decide)) (fun _ => ?_)
    refine qx_iconst dX11_tax_7 rfl rfl ?_
    exact q_iret dX11_tax_8 (qK_i (l3 p1))
theorem bkX11_tax_15 {b : Int} {mem : qm} {Q : Int → qm → Prop}
    {v v2 : Int}
    (l1 : v ≤ v2 → q_At yX11_tax cX11_tax 3 (some .int) 5 0 0 (qK (q_rb b) Q) 54 [(2, 0), (0, v), (0, 0)] [] (q_sh0, q_rb b, (q_up mem 0 16 0)))
    {P3 : Int → qm → Prop}
    (l2 : v2 < v → q_Ev yX11_isQuiet cX11_isQuiet 3 (some .boolean) 1 0 0 [(2, 0), (2, 14)] (q_sh0, q_rb b, mem) (qK (q_rb b) (P3)))
    (l3 : v2 < v → ∀ (r3 : Int), ∀ (m3 : qm), P3 r3 m3 → q_in32 r3 → r3 ≠ 0 → q_At yX11_tax cX11_tax 3 (some .int) 5 0 0 (qK (q_rb b) Q) 54 [(2, 0), (0, v), (0, 0)] [] (q_sh0, q_rb b, (q_up m3 0 16 0)))
    {P6 : Int → qm → Int → qm → Prop}
    (l4 : v2 < v → ∀ (r3 : Int), ∀ (m3 : qm), P3 r3 m3 → q_in32 r3 → r3 = 0 → q_Ev yX0_strike cX0_strike 3 none 4 0 0 [(2, 23), (2, 14)] (q_sh0, q_rb b, m3) (qK (q_rb b) (P6 r3 m3)))
    (o5 : v2 < v → ∀ (r3 : Int), ∀ (m3 : qm), P3 r3 m3 → q_in32 r3 → r3 = 0 → ∀ (r6 : Int), ∀ (m6 : qm), P6 r3 m3 r6 m6 → q_in32 r6 → q_in32 (v2 + 1))
    (l6 : v2 < v → ∀ (r3 : Int), ∀ (m3 : qm), P3 r3 m3 → q_in32 r3 → r3 = 0 → ∀ (r6 : Int), ∀ (m6 : qm), P6 r3 m3 r6 m6 → q_in32 r6 → q_At yX11_tax cX11_tax 3 (some .int) 5 0 0 (qK (q_rb b) Q) 15 [(2, 0), (0, v), (0, (v2 + 1))] [] (q_sh0, q_rb b, m6)) :
    q_At yX11_tax cX11_tax 3 (some .int) 5 0 0 (qK (q_rb b) Q) 15 [(2, 0), (0, v), (0, v2)] [] (q_sh0, q_rb b, mem) := by
  refine q_iload_n dX11_tax_15 rfl rfl ?_
  refine q_iload_n dX11_tax_16 rfl rfl ?_
  refine qx_icmp_ge (tgt := 48) dX11_tax_17 (by decide) (fun c1 => ?_) (fun c1 => ?_)
  · skip
    refine q_aload_n dX11_tax_48 rfl rfl ?_
    refine qx_invV (ci := 11) [] [(2, 0)] rfl qM_X11_clearRow dX11_tax_49 tw691 rfl qs0 rfl rfl rfl rfl (spX11_clearRow) (fun r2 m2 p2 q2 => ?_)
    obtain rfl := p2
    refine qx_iconst dX11_tax_52 rfl rfl ?_
    refine qx_istore_n (L' := [(2, 0), (0, v), (0, 0)]) dX11_tax_53 rfl rfl rfl rfl ?_
    exact l1 c1
  · skip
    refine q_aload_n dX11_tax_20 rfl rfl ?_
    refine q_aload_n dX11_tax_21 rfl rfl ?_
    refine q_getR (ci := 11) (k := 2) dX11_tax_22 rfl (by decide) rfl tw351 (by decide) qs0 qw0_2 (by decide) ?_
    refine qx_invV (ci := 11) [(2, 14)] [(2, 14), (2, 0)] rfl qM_X11_isQuiet dX11_tax_25 tw997 rfl qs0 rfl rfl rfl rfl (l2 c1) (fun r3 m3 p3 q3 => ?_)
    refine qx_if_ne (tgt := 48) dX11_tax_28 (by decide) (fun c4 => ?_) (fun c4 => ?_)
    · skip
      refine q_aload_n dX11_tax_48 rfl rfl ?_
      refine qx_invV (ci := 11) [] [(2, 0)] rfl qM_X11_clearRow dX11_tax_49 tw691 rfl qs0 rfl rfl rfl rfl (spX11_clearRow) (fun r5 m5 p5 q5 => ?_)
      obtain rfl := p5
      refine qx_iconst dX11_tax_52 rfl rfl ?_
      refine qx_istore_n (L' := [(2, 0), (0, v), (0, 0)]) dX11_tax_53 rfl rfl rfl rfl ?_
      exact l3 c1 r3 m3 p3 q3 c4
    · skip
      refine q_aload_n dX11_tax_31 rfl rfl ?_
      refine q_getR (ci := 11) (k := 3) dX11_tax_32 rfl (by decide) rfl tw352 (by decide) qs0 qw0_3 (by decide) ?_
      refine q_aload_n dX11_tax_35 rfl rfl ?_
      refine q_getR (ci := 11) (k := 2) dX11_tax_36 rfl (by decide) rfl tw351 (by decide) qs0 qw0_2 (by decide) ?_
      refine qx_invV (ci := 0) [(2, 14)] [(2, 14), (2, 23)] rfl qM_X0_strike dX11_tax_39 tw675 rfl qs23 rfl rfl rfl rfl (l4 c1 r3 m3 p3 q3 c4) (fun r6 m6 p6 q6 => ?_)
      refine qx_iinc (L' := [(2, 0), (0, v), (0, (v2 + 1))]) dX11_tax_42 rfl rfl rfl (o5 c1 r3 m3 p3 q3 c4 r6 m6 p6 q6) rfl ?_
      refine q_goto (tgt := 15) dX11_tax_45 (by decide) ?_
      exact l6 c1 r3 m3 p3 q3 c4 r6 m6 p6 q6
theorem bkX11_tax_54 {b : Int} {mem : qm} {Q : Int → qm → Prop}
    {v v2 : Int}
    {P2 : Int → qm → Prop}
    (l1 : 7 ≤ v2 → q_Ev yX7_lost cX7_lost 3 (some .int) 1 0 0 [(2, 14)] (q_sh0, q_rb b, mem) (qK (q_rb b) (P2)))
    {P3 : Int → qm → Int → qm → Prop}
    (l2 : 7 ≤ v2 → ∀ (r2 : Int), ∀ (m2 : qm), P2 r2 m2 → q_in32 r2 → q_Ev yX7_lost cX7_lost 3 (some .int) 1 0 0 [(2, 5)] (q_sh0, q_rb b, m2) (qK (q_rb b) (P3 r2 m2)))
    (o3 : 7 ≤ v2 → ∀ (r2 : Int), ∀ (m2 : qm), P2 r2 m2 → q_in32 r2 → ∀ (r3 : Int), ∀ (m3 : qm), P3 r2 m2 r3 m3 → q_in32 r3 → q_in32 (r2 - r3))
    (l4 : 7 ≤ v2 → ∀ (r2 : Int), ∀ (m2 : qm), P2 r2 m2 → q_in32 r2 → ∀ (r3 : Int), ∀ (m3 : qm), P3 r2 m2 r3 m3 → q_in32 r3 → Q (r2 - r3) m3)
    (o5 : v2 < 7 → (0 ≤ v2 ∧ v2 < 7) ∧ q_in32 ((mem 22 v2) - (mem 13 v2)) ∧ (0 ≤ (mem 0 16) ∧ (mem 0 16) < 10) ∧ q_in32 (v2 + 1))
    (l6 : v2 < 7 → q_At yX11_tax cX11_tax 3 (some .int) 5 0 0 (qK (q_rb b) Q) 54 [(2, 0), (0, v), (0, (v2 + 1))] [] (q_sh0, q_rb b, (q_up (q_up mem 169 (mem 0 16) ((mem 22 v2) - (mem 13 v2))) 0 16 ((mem 0 16) + 1)))) :
    q_At yX11_tax cX11_tax 3 (some .int) 5 0 0 (qK (q_rb b) Q) 54 [(2, 0), (0, v), (0, v2)] [] (q_sh0, q_rb b, mem) := by
  refine q_iload_n dX11_tax_54 rfl rfl ?_
  refine qx_bipush dX11_tax_55 rfl rfl ?_
  refine qx_icmp_ge (tgt := 89) dX11_tax_57 (by decide) (fun c1 => ?_) (fun c1 => ?_)
  · skip
    refine q_aload_n dX11_tax_89 rfl rfl ?_
    refine q_getR (ci := 11) (k := 2) dX11_tax_90 rfl (by decide) rfl tw351 (by decide) qs0 qw0_2 (by decide) ?_
    refine qx_invV (ci := 7) [] [(2, 14)] rfl qM_X7_lost dX11_tax_93 tw671 rfl qs14 rfl rfl rfl rfl (l1 c1) (fun r2 m2 p2 q2 => ?_)
    refine q_aload_n dX11_tax_96 rfl rfl ?_
    refine q_getR (ci := 11) (k := 1) dX11_tax_97 rfl (by decide) rfl tw350 (by decide) qs0 qw0_1 (by decide) ?_
    refine qx_invV (ci := 7) [] [(2, 5), (0, r2)] rfl qM_X7_lost dX11_tax_100 tw671 rfl qs5 rfl rfl rfl rfl (l2 c1 r2 m2 p2 q2) (fun r3 m3 p3 q3 => ?_)
    refine qx_isub dX11_tax_103 (o3 c1 r2 m2 p2 q2 r3 m3 p3 q3) ?_
    exact q_iret dX11_tax_104 (qK_i (l4 c1 r2 m2 p2 q2 r3 m3 p3 q3))
  · skip
    refine q_aload_n dX11_tax_60 rfl rfl ?_
    refine q_aload_n dX11_tax_61 rfl rfl ?_
    refine q_getR (ci := 11) (k := 2) dX11_tax_62 rfl (by decide) rfl tw351 (by decide) qs0 qw0_2 (by decide) ?_
    refine q_getR (ci := 7) (k := 7) dX11_tax_65 rfl (by decide) rfl tw100 (by decide) qs14 qw14_7 (by decide) ?_
    refine q_iload_n dX11_tax_68 rfl rfl ?_
    refine qx_iald (v := (mem 22 v2)) dX11_tax_69 qs22 (o5 c1).1 rfl ?_
    refine q_aload_n dX11_tax_70 rfl rfl ?_
    refine q_getR (ci := 11) (k := 1) dX11_tax_71 rfl (by decide) rfl tw350 (by decide) qs0 qw0_1 (by decide) ?_
    refine q_getR (ci := 7) (k := 7) dX11_tax_74 rfl (by decide) rfl tw100 (by decide) qs5 qw5_7 (by decide) ?_
    refine q_iload_n dX11_tax_77 rfl rfl ?_
    refine qx_iald (v := (mem 13 v2)) dX11_tax_78 qs13 (o5 c1).1 rfl ?_
    refine qx_isub dX11_tax_79 (o5 c1).2.1 ?_
    refine qx_invV (ci := 11) [(0, ((mem 22 v2) - (mem 13 v2)))] [(0, ((mem 22 v2) - (mem 13 v2))), (2, 0)] rfl qM_X11_tell dX11_tax_80 tw699 rfl qs0 rfl rfl rfl rfl (spX11_tell (o5 c1).2.2.1) (fun r4 m4 p4 q4 => ?_)
    obtain rfl := p4
    refine qx_iinc (L' := [(2, 0), (0, v), (0, (v2 + 1))]) dX11_tax_83 rfl rfl rfl (o5 c1).2.2.2 rfl ?_
    refine q_goto (tgt := 54) dX11_tax_86 (by decide) ?_
    exact l6 c1
theorem dX11_keep_0 : decode cX11_keep 0 = .ok (.iload_n 1, 1) := by decide +kernel
theorem dX11_keep_1 : decode cX11_keep 1 = .ok (.ifCond .lt 8, 3) := by decide +kernel
theorem dX11_keep_4 : decode cX11_keep 4 = .ok (.iload_n 1, 1) := by decide +kernel
theorem dX11_keep_5 : decode cX11_keep 5 = .ok (.iconst 2, 1) := by decide +kernel
theorem dX11_keep_6 : decode cX11_keep 6 = .ok (.if_icmp .lt 5, 3) := by decide +kernel
theorem dX11_keep_9 : decode cX11_keep 9 = .ok (.iconst 0, 1) := by decide +kernel
theorem dX11_keep_10 : decode cX11_keep 10 = .ok (.ireturn, 1) := by decide +kernel
theorem dX11_keep_11 : decode cX11_keep 11 = .ok (.aload_n 0, 1) := by decide +kernel
theorem dX11_keep_12 : decode cX11_keep 12 = .ok (.getfield 49, 3) := by decide +kernel
theorem dX11_keep_15 : decode cX11_keep 15 = .ok (.iload_n 1, 1) := by decide +kernel
theorem dX11_keep_16 : decode cX11_keep 16 = .ok (.aaload, 1) := by decide +kernel
theorem dX11_keep_17 : decode cX11_keep 17 = .ok (.aload_n 0, 1) := by decide +kernel
theorem dX11_keep_18 : decode cX11_keep 18 = .ok (.getfield 19, 3) := by decide +kernel
theorem dX11_keep_21 : decode cX11_keep 21 = .ok (.invokevirtual 238, 3) := by decide +kernel
theorem dX11_keep_24 : decode cX11_keep 24 = .ok (.aload_n 0, 1) := by decide +kernel
theorem dX11_keep_25 : decode cX11_keep 25 = .ok (.getfield 49, 3) := by decide +kernel
theorem dX11_keep_28 : decode cX11_keep 28 = .ok (.iload_n 1, 1) := by decide +kernel
theorem dX11_keep_29 : decode cX11_keep 29 = .ok (.aaload, 1) := by decide +kernel
theorem dX11_keep_30 : decode cX11_keep 30 = .ok (.aload_n 0, 1) := by decide +kernel
theorem dX11_keep_31 : decode cX11_keep 31 = .ok (.getfield 19, 3) := by decide +kernel
theorem dX11_keep_34 : decode cX11_keep 34 = .ok (.invokevirtual 409, 3) := by decide +kernel
theorem dX11_keep_37 : decode cX11_keep 37 = .ok (.aload_n 0, 1) := by decide +kernel
theorem dX11_keep_38 : decode cX11_keep 38 = .ok (.getfield 53, 3) := by decide +kernel
theorem dX11_keep_41 : decode cX11_keep 41 = .ok (.iload_n 1, 1) := by decide +kernel
theorem dX11_keep_42 : decode cX11_keep 42 = .ok (.aload_n 0, 1) := by decide +kernel
theorem dX11_keep_43 : decode cX11_keep 43 = .ok (.getfield 10, 3) := by decide +kernel
theorem dX11_keep_46 : decode cX11_keep 46 = .ok (.getfield 173, 3) := by decide +kernel
theorem dX11_keep_49 : decode cX11_keep 49 = .ok (.iastore, 1) := by decide +kernel
theorem dX11_keep_50 : decode cX11_keep 50 = .ok (.iconst 1, 1) := by decide +kernel
theorem dX11_keep_51 : decode cX11_keep 51 = .ok (.ireturn, 1) := by decide +kernel
theorem bkX11_keep_0 {b : Int} {mem : qm} {Q : Int → qm → Prop}
    {v : Int}
    (l1 : v < 0 → Q 0 mem)
    (o2 : 0 ≤ v → v < 2 → (0 ≤ v ∧ v < 2))
    {P3 : Int → qm → Prop}
    (l3 : 0 ≤ v → v < 2 → q_Ev yX7_copyWater cX7_copyWater 2 none 1 0 0 [(2, (170 + 9 * v)), (2, 5)] (q_sh0, q_rb b, mem) (qK (q_rb b) (P3)))
    {P4 : Int → qm → Int → qm → Prop}
    (l4 : 0 ≤ v → v < 2 → ∀ (r3 : Int), ∀ (m3 : qm), P3 r3 m3 → q_in32 r3 → q_Ev yX7_copyPipes cX7_copyPipes 2 none 1 0 0 [(2, (170 + 9 * v)), (2, 5)] (q_sh0, q_rb b, m3) (qK (q_rb b) (P4 r3 m3)))
    (l5 : 0 ≤ v → v < 2 → ∀ (r3 : Int), ∀ (m3 : qm), P3 r3 m3 → q_in32 r3 → ∀ (r4 : Int), ∀ (m4 : qm), P4 r3 m3 r4 m4 → q_in32 r4 → Q 1 (q_up m4 144 v (m4 1 3)))
    (l6 : 0 ≤ v → 2 ≤ v → Q 0 mem) :
    q_At yX11_keep cX11_keep 2 (some .boolean) 2 0 0 (qK (q_rb b) Q) 0 [(2, 0), (0, v)] [] (q_sh0, q_rb b, mem) := by
  refine q_iload_n dX11_keep_0 rfl rfl ?_
  refine qx_if_lt (tgt := 9) dX11_keep_1 (by decide) (fun c1 => ?_) (fun c1 => ?_)
  · skip
    refine qx_iconst dX11_keep_9 rfl rfl ?_
    exact q_zret dX11_keep_10 (by decide) (qK_i (l1 c1))
  · skip
    refine q_iload_n dX11_keep_4 rfl rfl ?_
    refine qx_iconst dX11_keep_5 rfl rfl ?_
    refine qx_icmp_lt (tgt := 11) dX11_keep_6 (by decide) (fun c2 => ?_) (fun c2 => ?_)
    · skip
      refine q_aload_n dX11_keep_11 rfl rfl ?_
      refine q_getR (ci := 11) (k := 6) dX11_keep_12 rfl (by decide) rfl tw355 (by decide) qs0 qw0_6 (by decide) ?_
      refine q_iload_n dX11_keep_15 rfl rfl ?_
      have hst1 : q_st (170 + 9 * v) := q_st143 ((o2 c1 c2))
      refine q_aald dX11_keep_16 qs143 ((o2 c1 c2)).1 ((o2 c1 c2)).2 (q_wt143 ((o2 c1 c2))) (by have := qst_nn hst1; omega) ?_
      refine q_aload_n dX11_keep_17 rfl rfl ?_
      refine q_getR (ci := 11) (k := 1) dX11_keep_18 rfl (by decide) rfl tw350 (by decide) qs0 qw0_1 (by decide) ?_
      refine qx_invV (ci := 7) [(2, 5)] [(2, 5), (2, (170 + 9 * v))] rfl qM_X7_copyWater dX11_keep_21 tw719 rfl (qst0 hst1) rfl rfl rfl rfl (l3 c1 c2) (fun r3 m3 p3 q3 => ?_)
      refine q_aload_n dX11_keep_24 rfl rfl ?_
      refine q_getR (ci := 11) (k := 6) dX11_keep_25 rfl (by decide) rfl tw355 (by decide) qs0 qw0_6 (by decide) ?_
      refine q_iload_n dX11_keep_28 rfl rfl ?_
      have hst2 : q_st (170 + 9 * v) := q_st143 ((o2 c1 c2))
      refine q_aald dX11_keep_29 qs143 ((o2 c1 c2)).1 ((o2 c1 c2)).2 (q_wt143 ((o2 c1 c2))) (by have := qst_nn hst2; omega) ?_
      refine q_aload_n dX11_keep_30 rfl rfl ?_
      refine q_getR (ci := 11) (k := 1) dX11_keep_31 rfl (by decide) rfl tw350 (by decide) qs0 qw0_1 (by decide) ?_
      refine qx_invV (ci := 7) [(2, 5)] [(2, 5), (2, (170 + 9 * v))] rfl qM_X7_copyPipes dX11_keep_34 tw993 rfl (qst0 hst2) rfl rfl rfl rfl (l4 c1 c2 r3 m3 p3 q3) (fun r4 m4 p4 q4 => ?_)
      refine q_aload_n dX11_keep_37 rfl rfl ?_
      refine q_getR (ci := 11) (k := 7) dX11_keep_38 rfl (by decide) rfl tw356 (by decide) qs0 qw0_7 (by decide) ?_
      refine q_iload_n dX11_keep_41 rfl rfl ?_
      refine q_aload_n dX11_keep_42 rfl rfl ?_
      refine q_getR (ci := 11) (k := 0) dX11_keep_43 rfl (by decide) rfl tw349 (by decide) qs0 qw0_0 (by decide) ?_
      refine qx_getI (ci := 9) (k := 3) (v := (m4 1 3)) dX11_keep_46 rfl rfl rfl tw53 rfl qs1 rfl ?_
      refine q_iast dX11_keep_49 qs144 ((o2 c1 c2)).1 ((o2 c1 c2)).2 ?_
      refine qx_iconst dX11_keep_50 rfl rfl ?_
      exact q_zret dX11_keep_51 (by decide) (qK_i (l5 c1 c2 r3 m3 p3 q3 r4 m4 p4 q4))
    · skip
      refine qx_iconst dX11_keep_9 rfl rfl ?_
      exact q_zret dX11_keep_10 (by decide) (qK_i (l6 c1 c2))
theorem dX11_again_0 : decode cX11_again 0 = .ok (.iload_n 1, 1) := by decide +kernel
theorem dX11_again_1 : decode cX11_again 1 = .ok (.ifCond .lt 24, 3) := by decide +kernel
theorem dX11_again_4 : decode cX11_again 4 = .ok (.iload_n 1, 1) := by decide +kernel
theorem dX11_again_5 : decode cX11_again 5 = .ok (.iconst 2, 1) := by decide +kernel
theorem dX11_again_6 : decode cX11_again 6 = .ok (.if_icmp .ge 19, 3) := by decide +kernel
theorem dX11_again_9 : decode cX11_again 9 = .ok (.aload_n 0, 1) := by decide +kernel
theorem dX11_again_10 : decode cX11_again 10 = .ok (.getfield 53, 3) := by decide +kernel
theorem dX11_again_13 : decode cX11_again 13 = .ok (.iload_n 1, 1) := by decide +kernel
theorem dX11_again_14 : decode cX11_again 14 = .ok (.iaload, 1) := by decide +kernel
theorem dX11_again_15 : decode cX11_again 15 = .ok (.aload_n 0, 1) := by decide +kernel
theorem dX11_again_16 : decode cX11_again 16 = .ok (.getfield 10, 3) := by decide +kernel
theorem dX11_again_19 : decode cX11_again 19 = .ok (.getfield 173, 3) := by decide +kernel
theorem dX11_again_22 : decode cX11_again 22 = .ok (.if_icmp .eq 5, 3) := by decide +kernel
theorem dX11_again_25 : decode cX11_again 25 = .ok (.iconst 0, 1) := by decide +kernel
theorem dX11_again_26 : decode cX11_again 26 = .ok (.ireturn, 1) := by decide +kernel
theorem dX11_again_27 : decode cX11_again 27 = .ok (.aload_n 0, 1) := by decide +kernel
theorem dX11_again_28 : decode cX11_again 28 = .ok (.getfield 19, 3) := by decide +kernel
theorem dX11_again_31 : decode cX11_again 31 = .ok (.aload_n 0, 1) := by decide +kernel
theorem dX11_again_32 : decode cX11_again 32 = .ok (.getfield 49, 3) := by decide +kernel
theorem dX11_again_35 : decode cX11_again 35 = .ok (.iload_n 1, 1) := by decide +kernel
theorem dX11_again_36 : decode cX11_again 36 = .ok (.aaload, 1) := by decide +kernel
theorem dX11_again_37 : decode cX11_again 37 = .ok (.invokevirtual 238, 3) := by decide +kernel
theorem dX11_again_40 : decode cX11_again 40 = .ok (.aload_n 0, 1) := by decide +kernel
theorem dX11_again_41 : decode cX11_again 41 = .ok (.getfield 19, 3) := by decide +kernel
theorem dX11_again_44 : decode cX11_again 44 = .ok (.aload_n 0, 1) := by decide +kernel
theorem dX11_again_45 : decode cX11_again 45 = .ok (.getfield 49, 3) := by decide +kernel
theorem dX11_again_48 : decode cX11_again 48 = .ok (.iload_n 1, 1) := by decide +kernel
theorem dX11_again_49 : decode cX11_again 49 = .ok (.aaload, 1) := by decide +kernel
theorem dX11_again_50 : decode cX11_again 50 = .ok (.invokevirtual 409, 3) := by decide +kernel
theorem dX11_again_53 : decode cX11_again 53 = .ok (.aload_n 0, 1) := by decide +kernel
theorem dX11_again_54 : decode cX11_again 54 = .ok (.getfield 45, 3) := by decide +kernel
theorem dX11_again_57 : decode cX11_again 57 = .ok (.iconst 0, 1) := by decide +kernel
theorem dX11_again_58 : decode cX11_again 58 = .ok (.putfield 122, 3) := by decide +kernel
theorem dX11_again_61 : decode cX11_again 61 = .ok (.iconst 1, 1) := by decide +kernel
theorem dX11_again_62 : decode cX11_again 62 = .ok (.ireturn, 1) := by decide +kernel
theorem bkX11_again_0 {b : Int} {mem : qm} {Q : Int → qm → Prop}
    {v : Int}
    (l1 : v < 0 → Q 0 mem)
    (l2 : 0 ≤ v → 2 ≤ v → Q 0 mem)
    (o3 : 0 ≤ v → v < 2 → (0 ≤ v ∧ v < 2))
    {P4 : Int → qm → Prop}
    (l4 : 0 ≤ v → v < 2 → (mem 144 v) = (mem 1 3) → q_Ev yX7_copyWater cX7_copyWater 2 none 1 0 0 [(2, 5), (2, (170 + 9 * v))] (q_sh0, q_rb b, mem) (qK (q_rb b) (P4)))
    {P5 : Int → qm → Int → qm → Prop}
    (l5 : 0 ≤ v → v < 2 → (mem 144 v) = (mem 1 3) → ∀ (r4 : Int), ∀ (m4 : qm), P4 r4 m4 → q_in32 r4 → q_Ev yX7_copyPipes cX7_copyPipes 2 none 1 0 0 [(2, 5), (2, (170 + 9 * v))] (q_sh0, q_rb b, m4) (qK (q_rb b) (P5 r4 m4)))
    (l6 : 0 ≤ v → v < 2 → (mem 144 v) = (mem 1 3) → ∀ (r4 : Int), ∀ (m4 : qm), P4 r4 m4 → q_in32 r4 → ∀ (r5 : Int), ∀ (m5 : qm), P5 r4 m4 r5 m5 → q_in32 r5 → Q 1 (q_up m5 33 2 0))
    (l7 : 0 ≤ v → v < 2 → (mem 144 v) ≠ (mem 1 3) → Q 0 mem) :
    q_At yX11_again cX11_again 2 (some .boolean) 2 0 0 (qK (q_rb b) Q) 0 [(2, 0), (0, v)] [] (q_sh0, q_rb b, mem) := by
  refine q_iload_n dX11_again_0 rfl rfl ?_
  refine qx_if_lt (tgt := 25) dX11_again_1 (by decide) (fun c1 => ?_) (fun c1 => ?_)
  · skip
    refine qx_iconst dX11_again_25 rfl rfl ?_
    exact q_zret dX11_again_26 (by decide) (qK_i (l1 c1))
  · skip
    refine q_iload_n dX11_again_4 rfl rfl ?_
    refine qx_iconst dX11_again_5 rfl rfl ?_
    refine qx_icmp_ge (tgt := 25) dX11_again_6 (by decide) (fun c2 => ?_) (fun c2 => ?_)
    · skip
      refine qx_iconst dX11_again_25 rfl rfl ?_
      exact q_zret dX11_again_26 (by decide) (qK_i (l2 c1 c2))
    · skip
      refine q_aload_n dX11_again_9 rfl rfl ?_
      refine q_getR (ci := 11) (k := 7) dX11_again_10 rfl (by decide) rfl tw356 (by decide) qs0 qw0_7 (by decide) ?_
      refine q_iload_n dX11_again_13 rfl rfl ?_
      refine qx_iald (v := (mem 144 v)) dX11_again_14 qs144 (o3 c1 c2) rfl ?_
      refine q_aload_n dX11_again_15 rfl rfl ?_
      refine q_getR (ci := 11) (k := 0) dX11_again_16 rfl (by decide) rfl tw349 (by decide) qs0 qw0_0 (by decide) ?_
      refine qx_getI (ci := 9) (k := 3) (v := (mem 1 3)) dX11_again_19 rfl rfl rfl tw53 rfl qs1 rfl ?_
      refine qx_icmp_eq (tgt := 27) dX11_again_22 (by decide) (fun c3 => ?_) (fun c3 => ?_)
      · skip
        refine q_aload_n dX11_again_27 rfl rfl ?_
        refine q_getR (ci := 11) (k := 1) dX11_again_28 rfl (by decide) rfl tw350 (by decide) qs0 qw0_1 (by decide) ?_
        refine q_aload_n dX11_again_31 rfl rfl ?_
        refine q_getR (ci := 11) (k := 6) dX11_again_32 rfl (by decide) rfl tw355 (by decide) qs0 qw0_6 (by decide) ?_
        refine q_iload_n dX11_again_35 rfl rfl ?_
        have hst1 : q_st (170 + 9 * v) := q_st143 ((o3 c1 c2))
        refine q_aald dX11_again_36 qs143 ((o3 c1 c2)).1 ((o3 c1 c2)).2 (q_wt143 ((o3 c1 c2))) (by have := qst_nn hst1; omega) ?_
        refine qx_invV (ci := 7) [(2, (170 + 9 * v))] [(2, (170 + 9 * v)), (2, 5)] rfl qM_X7_copyWater dX11_again_37 tw719 rfl qs5 rfl rfl rfl rfl (l4 c1 c2 c3) (fun r4 m4 p4 q4 => ?_)
        refine q_aload_n dX11_again_40 rfl rfl ?_
        refine q_getR (ci := 11) (k := 1) dX11_again_41 rfl (by decide) rfl tw350 (by decide) qs0 qw0_1 (by decide) ?_
        refine q_aload_n dX11_again_44 rfl rfl ?_
        refine q_getR (ci := 11) (k := 6) dX11_again_45 rfl (by decide) rfl tw355 (by decide) qs0 qw0_6 (by decide) ?_
        refine q_iload_n dX11_again_48 rfl rfl ?_
        have hst2 : q_st (170 + 9 * v) := q_st143 ((o3 c1 c2))
        refine q_aald dX11_again_49 qs143 ((o3 c1 c2)).1 ((o3 c1 c2)).2 (q_wt143 ((o3 c1 c2))) (by have := qst_nn hst2; omega) ?_
        refine qx_invV (ci := 7) [(2, (170 + 9 * v))] [(2, (170 + 9 * v)), (2, 5)] rfl qM_X7_copyPipes dX11_again_50 tw993 rfl qs5 rfl rfl rfl rfl (l5 c1 c2 c3 r4 m4 p4 q4) (fun r5 m5 p5 q5 => ?_)
        refine q_aload_n dX11_again_53 rfl rfl ?_
        refine q_getR (ci := 11) (k := 5) dX11_again_54 rfl (by decide) rfl tw354 (by decide) qs0 qw0_5 (by decide) ?_
        refine qx_iconst dX11_again_57 rfl rfl ?_
        refine q_putI (ci := 3) (k := 2) (kI := 2) (ty := .int) dX11_again_58 rfl (by decide) rfl tw195 rfl rfl rfl (fun _ => ⟨rfl, rfl⟩) qs33 ?_
        refine qx_iconst dX11_again_61 rfl rfl ?_
        exact q_zret dX11_again_62 (by decide) (qK_i (l6 c1 c2 c3 r4 m4 p4 q4 r5 m5 p5 q5))
      · skip
        refine qx_iconst dX11_again_25 rfl rfl ?_
        exact q_zret dX11_again_26 (by decide) (qK_i (l7 c1 c2 c3))
theorem dX11_count_0 : decode cX11_count 0 = .ok (.iload_n 1, 1) := by decide +kernel
theorem dX11_count_1 : decode cX11_count 1 = .ok (.tableswitch 117 0 8 #[51, 59, 67, 75, 80, 88, 96, 101, 109], 51) := by decide +kernel
theorem dX11_count_52 : decode cX11_count 52 = .ok (.aload_n 0, 1) := by decide +kernel
theorem dX11_count_53 : decode cX11_count 53 = .ok (.getfield 10, 3) := by decide +kernel
theorem dX11_count_56 : decode cX11_count 56 = .ok (.getfield 173, 3) := by decide +kernel
theorem dX11_count_59 : decode cX11_count 59 = .ok (.ireturn, 1) := by decide +kernel
theorem dX11_count_60 : decode cX11_count 60 = .ok (.aload_n 0, 1) := by decide +kernel
theorem dX11_count_61 : decode cX11_count 61 = .ok (.getfield 19, 3) := by decide +kernel
theorem dX11_count_64 : decode cX11_count 64 = .ok (.getfield 412, 3) := by decide +kernel
theorem dX11_count_67 : decode cX11_count 67 = .ok (.ireturn, 1) := by decide +kernel
theorem dX11_count_68 : decode cX11_count 68 = .ok (.aload_n 0, 1) := by decide +kernel
theorem dX11_count_69 : decode cX11_count 69 = .ok (.getfield 19, 3) := by decide +kernel
theorem dX11_count_72 : decode cX11_count 72 = .ok (.invokevirtual 217, 3) := by decide +kernel
theorem dX11_count_75 : decode cX11_count 75 = .ok (.ireturn, 1) := by decide +kernel
theorem dX11_count_76 : decode cX11_count 76 = .ok (.aload_n 0, 1) := by decide +kernel
theorem dX11_count_77 : decode cX11_count 77 = .ok (.invokevirtual 232, 3) := by decide +kernel
theorem dX11_count_80 : decode cX11_count 80 = .ok (.ireturn, 1) := by decide +kernel
theorem dX11_count_81 : decode cX11_count 81 = .ok (.aload_n 0, 1) := by decide +kernel
theorem dX11_count_82 : decode cX11_count 82 = .ok (.getfield 45, 3) := by decide +kernel
theorem dX11_count_85 : decode cX11_count 85 = .ok (.getfield 122, 3) := by decide +kernel
theorem dX11_count_88 : decode cX11_count 88 = .ok (.ireturn, 1) := by decide +kernel
theorem dX11_count_89 : decode cX11_count 89 = .ok (.aload_n 0, 1) := by decide +kernel
theorem dX11_count_90 : decode cX11_count 90 = .ok (.getfield 90, 3) := by decide +kernel
theorem dX11_count_93 : decode cX11_count 93 = .ok (.getfield 379, 3) := by decide +kernel
theorem dX11_count_96 : decode cX11_count 96 = .ok (.ireturn, 1) := by decide +kernel
theorem dX11_count_97 : decode cX11_count 97 = .ok (.aload_n 0, 1) := by decide +kernel
theorem dX11_count_98 : decode cX11_count 98 = .ok (.getfield 414, 3) := by decide +kernel
theorem dX11_count_101 : decode cX11_count 101 = .ok (.ireturn, 1) := by decide +kernel
theorem dX11_count_102 : decode cX11_count 102 = .ok (.aload_n 0, 1) := by decide +kernel
theorem dX11_count_103 : decode cX11_count 103 = .ok (.getfield 60, 3) := by decide +kernel
theorem dX11_count_106 : decode cX11_count 106 = .ok (.getfield 107, 3) := by decide +kernel
theorem dX11_count_109 : decode cX11_count 109 = .ok (.ireturn, 1) := by decide +kernel
theorem dX11_count_110 : decode cX11_count 110 = .ok (.aload_n 0, 1) := by decide +kernel
theorem dX11_count_111 : decode cX11_count 111 = .ok (.getfield 19, 3) := by decide +kernel
theorem dX11_count_114 : decode cX11_count 114 = .ok (.invokevirtual 244, 3) := by decide +kernel
theorem dX11_count_117 : decode cX11_count 117 = .ok (.ireturn, 1) := by decide +kernel
theorem dX11_count_118 : decode cX11_count 118 = .ok (.iconst (-1), 1) := by decide +kernel
theorem dX11_count_119 : decode cX11_count 119 = .ok (.ireturn, 1) := by decide +kernel
theorem bkX11_count_0 {b : Int} {mem : qm} {Q : Int → qm → Prop}
    {v : Int}
    (l1 : v = 0 → Q (mem 1 3) mem)
    (l2 : v ≠ 0 → v = 1 → Q (mem 5 8) mem)
    {P4 : Int → qm → Prop}
    (l3 : v ≠ 0 → v ≠ 1 → v = 2 → q_Ev yX7_lost cX7_lost 3 (some .int) 1 0 0 [(2, 5)] (q_sh0, q_rb b, mem) (qK (q_rb b) (P4)))
    (l4 : v ≠ 0 → v ≠ 1 → v = 2 → ∀ (r4 : Int), ∀ (m4 : qm), P4 r4 m4 → q_in32 r4 → Q r4 m4)
    {P6 : Int → qm → Prop}
    (l5 : v ≠ 0 → v ≠ 1 → v ≠ 2 → v = 3 → q_Ev yX11_levelsInAll cX11_levelsInAll 3 (some .int) 1 0 0 [(2, 0)] (q_sh0, q_rb b, mem) (qK (q_rb b) (P6)))
    (l6 : v ≠ 0 → v ≠ 1 → v ≠ 2 → v = 3 → ∀ (r6 : Int), ∀ (m6 : qm), P6 r6 m6 → q_in32 r6 → Q r6 m6)
    (l7 : v ≠ 0 → v ≠ 1 → v ≠ 2 → v ≠ 3 → v = 4 → Q (mem 33 2) mem)
    (l8 : v ≠ 0 → v ≠ 1 → v ≠ 2 → v ≠ 3 → v ≠ 4 → v = 5 → Q (mem 159 3) mem)
    (l9 : v ≠ 0 → v ≠ 1 → v ≠ 2 → v ≠ 3 → v ≠ 4 → v ≠ 5 → v = 6 → Q (mem 0 16) mem)
    (l10 : v ≠ 0 → v ≠ 1 → v ≠ 2 → v ≠ 3 → v ≠ 4 → v ≠ 5 → v ≠ 6 → v = 7 → Q (mem 145 1) mem)
    {P12 : Int → qm → Prop}
    (l11 : v ≠ 0 → v ≠ 1 → v ≠ 2 → v ≠ 3 → v ≠ 4 → v ≠ 5 → v ≠ 6 → v ≠ 7 → v = 8 → q_Ev yX7_owedByAll cX7_owedByAll 3 (some .int) 2 0 0 [(2, 5)] (q_sh0, q_rb b, mem) (qK (q_rb b) (P12)))
    (l12 : v ≠ 0 → v ≠ 1 → v ≠ 2 → v ≠ 3 → v ≠ 4 → v ≠ 5 → v ≠ 6 → v ≠ 7 → v = 8 → ∀ (r12 : Int), ∀ (m12 : qm), P12 r12 m12 → q_in32 r12 → Q r12 m12)
    (l13 : v ≠ 0 → v ≠ 1 → v ≠ 2 → v ≠ 3 → v ≠ 4 → v ≠ 5 → v ≠ 6 → v ≠ 7 → v ≠ 8 → Q (-1) mem) :
    q_At yX11_count cX11_count 2 (some .int) 3 0 0 (qK (q_rb b) Q) 0 [(2, 0), (0, v)] [] (q_sh0, q_rb b, mem) := by
  refine q_iload_n dX11_count_0 rfl rfl ?_
  by_cases c1 : v = 0
  · skip
    refine q_tabIn (off := 51) (tgt := 52) dX11_count_1 (by omega) (by omega) (by rw [c1]; rfl) (by decide) ?_
    refine q_aload_n dX11_count_52 rfl rfl ?_
    refine q_getR (ci := 11) (k := 0) dX11_count_53 rfl (by decide) rfl tw349 (by decide) qs0 qw0_0 (by decide) ?_
    refine qx_getI (ci := 9) (k := 3) (v := (mem 1 3)) dX11_count_56 rfl rfl rfl tw53 rfl qs1 rfl ?_
    exact q_iret dX11_count_59 (qK_i (l1 c1))
  by_cases c2 : v = 1
  · skip
    refine q_tabIn (off := 59) (tgt := 60) dX11_count_1 (by omega) (by omega) (by rw [c2]; rfl) (by decide) ?_
    refine q_aload_n dX11_count_60 rfl rfl ?_
    refine q_getR (ci := 11) (k := 1) dX11_count_61 rfl (by decide) rfl tw350 (by decide) qs0 qw0_1 (by decide) ?_
    refine qx_getI (ci := 7) (k := 8) (v := (mem 5 8)) dX11_count_64 rfl rfl rfl tw103 rfl qs5 rfl ?_
    exact q_iret dX11_count_67 (qK_i (l2 c1 c2))
  by_cases c3 : v = 2
  · skip
    refine q_tabIn (off := 67) (tgt := 68) dX11_count_1 (by omega) (by omega) (by rw [c3]; rfl) (by decide) ?_
    refine q_aload_n dX11_count_68 rfl rfl ?_
    refine q_getR (ci := 11) (k := 1) dX11_count_69 rfl (by decide) rfl tw350 (by decide) qs0 qw0_1 (by decide) ?_
    refine qx_invV (ci := 7) [] [(2, 5)] rfl qM_X7_lost dX11_count_72 tw671 rfl qs5 rfl rfl rfl rfl (l3 c1 c2 c3) (fun r4 m4 p4 q4 => ?_)
    exact q_iret dX11_count_75 (qK_i (l4 c1 c2 c3 r4 m4 p4 q4))
  by_cases c5 : v = 3
  · skip
    refine q_tabIn (off := 75) (tgt := 76) dX11_count_1 (by omega) (by omega) (by rw [c5]; rfl) (by decide) ?_
    refine q_aload_n dX11_count_76 rfl rfl ?_
    refine qx_invV (ci := 11) [] [(2, 0)] rfl qM_X11_levelsInAll dX11_count_77 tw703 rfl qs0 rfl rfl rfl rfl (l5 c1 c2 c3 c5) (fun r6 m6 p6 q6 => ?_)
    exact q_iret dX11_count_80 (qK_i (l6 c1 c2 c3 c5 r6 m6 p6 q6))
  by_cases c7 : v = 4
  · skip
    refine q_tabIn (off := 80) (tgt := 81) dX11_count_1 (by omega) (by omega) (by rw [c7]; rfl) (by decide) ?_
    refine q_aload_n dX11_count_81 rfl rfl ?_
    refine q_getR (ci := 11) (k := 5) dX11_count_82 rfl (by decide) rfl tw354 (by decide) qs0 qw0_5 (by decide) ?_
    refine qx_getI (ci := 3) (k := 2) (v := (mem 33 2)) dX11_count_85 rfl rfl rfl tw195 rfl qs33 rfl ?_
    exact q_iret dX11_count_88 (qK_i (l7 c1 c2 c3 c5 c7))
  by_cases c8 : v = 5
  · skip
    refine q_tabIn (off := 88) (tgt := 89) dX11_count_1 (by omega) (by omega) (by rw [c8]; rfl) (by decide) ?_
    refine q_aload_n dX11_count_89 rfl rfl ?_
    refine q_getR (ci := 11) (k := 12) dX11_count_90 rfl (by decide) rfl tw361 (by decide) qs0 qw0_12 (by decide) ?_
    refine qx_getI (ci := 5) (k := 3) (v := (mem 159 3)) dX11_count_93 rfl rfl rfl tw313 rfl qs159 rfl ?_
    exact q_iret dX11_count_96 (qK_i (l8 c1 c2 c3 c5 c7 c8))
  by_cases c9 : v = 6
  · skip
    refine q_tabIn (off := 96) (tgt := 97) dX11_count_1 (by omega) (by omega) (by rw [c9]; rfl) (by decide) ?_
    refine q_aload_n dX11_count_97 rfl rfl ?_
    refine qx_getI (ci := 11) (k := 16) (v := (mem 0 16)) dX11_count_98 rfl rfl rfl tw365 rfl qs0 rfl ?_
    exact q_iret dX11_count_101 (qK_i (l9 c1 c2 c3 c5 c7 c8 c9))
  by_cases c10 : v = 7
  · skip
    refine q_tabIn (off := 101) (tgt := 102) dX11_count_1 (by omega) (by omega) (by rw [c10]; rfl) (by decide) ?_
    refine q_aload_n dX11_count_102 rfl rfl ?_
    refine q_getR (ci := 11) (k := 8) dX11_count_103 rfl (by decide) rfl tw357 (by decide) qs0 qw0_8 (by decide) ?_
    refine qx_getI (ci := 6) (k := 1) (v := (mem 145 1)) dX11_count_106 rfl rfl rfl tw211 rfl qs145 rfl ?_
    exact q_iret dX11_count_109 (qK_i (l10 c1 c2 c3 c5 c7 c8 c9 c10))
  by_cases c11 : v = 8
  · skip
    refine q_tabIn (off := 109) (tgt := 110) dX11_count_1 (by omega) (by omega) (by rw [c11]; rfl) (by decide) ?_
    refine q_aload_n dX11_count_110 rfl rfl ?_
    refine q_getR (ci := 11) (k := 1) dX11_count_111 rfl (by decide) rfl tw350 (by decide) qs0 qw0_1 (by decide) ?_
    refine qx_invV (ci := 7) [] [(2, 5)] rfl qM_X7_owedByAll dX11_count_114 tw724 rfl qs5 rfl rfl rfl rfl (l11 c1 c2 c3 c5 c7 c8 c9 c10 c11) (fun r12 m12 p12 q12 => ?_)
    exact q_iret dX11_count_117 (qK_i (l12 c1 c2 c3 c5 c7 c8 c9 c10 c11 r12 m12 p12 q12))
  refine q_tabOut (tgt := 118) dX11_count_1 (by omega) (by decide) ?_
  refine qx_iconst dX11_count_118 rfl rfl ?_
  exact q_iret dX11_count_119 (qK_i (l13 c1 c2 c3 c5 c7 c8 c9 c10 c11))
theorem dX11_settleFirst_0 : decode cX11_settleFirst 0 = .ok (.iconst 0, 1) := by decide +kernel
theorem dX11_settleFirst_1 : decode cX11_settleFirst 1 = .ok (.istore_n 1, 1) := by decide +kernel
theorem dX11_settleFirst_2 : decode cX11_settleFirst 2 = .ok (.iload_n 1, 1) := by decide +kernel
theorem dX11_settleFirst_3 : decode cX11_settleFirst 3 = .ok (.bipush 6, 2) := by decide +kernel
theorem dX11_settleFirst_5 : decode cX11_settleFirst 5 = .ok (.if_icmp .ge 91, 3) := by decide +kernel
theorem dX11_settleFirst_8 : decode cX11_settleFirst 8 = .ok (.iconst 0, 1) := by decide +kernel
theorem dX11_settleFirst_9 : decode cX11_settleFirst 9 = .ok (.istore_n 2, 1) := by decide +kernel
theorem dX11_settleFirst_10 : decode cX11_settleFirst 10 = .ok (.iload_n 2, 1) := by decide +kernel
theorem dX11_settleFirst_11 : decode cX11_settleFirst 11 = .ok (.bipush 6, 2) := by decide +kernel
theorem dX11_settleFirst_13 : decode cX11_settleFirst 13 = .ok (.if_icmp .ge 77, 3) := by decide +kernel
theorem dX11_settleFirst_16 : decode cX11_settleFirst 16 = .ok (.aload_n 0, 1) := by decide +kernel
theorem dX11_settleFirst_17 : decode cX11_settleFirst 17 = .ok (.getfield 19, 3) := by decide +kernel
theorem dX11_settleFirst_20 : decode cX11_settleFirst 20 = .ok (.getfield 279, 3) := by decide +kernel
theorem dX11_settleFirst_23 : decode cX11_settleFirst 23 = .ok (.iload_n 1, 1) := by decide +kernel
theorem dX11_settleFirst_24 : decode cX11_settleFirst 24 = .ok (.bipush 6, 2) := by decide +kernel
theorem dX11_settleFirst_26 : decode cX11_settleFirst 26 = .ok (.imul, 1) := by decide +kernel
theorem dX11_settleFirst_27 : decode cX11_settleFirst 27 = .ok (.iload_n 2, 1) := by decide +kernel
theorem dX11_settleFirst_28 : decode cX11_settleFirst 28 = .ok (.iadd, 1) := by decide +kernel
theorem dX11_settleFirst_29 : decode cX11_settleFirst 29 = .ok (.iaload, 1) := by decide +kernel
theorem dX11_settleFirst_30 : decode cX11_settleFirst 30 = .ok (.ifCond .ne 6, 3) := by decide +kernel
theorem dX11_settleFirst_33 : decode cX11_settleFirst 33 = .ok (.goto 51, 3) := by decide +kernel
theorem dX11_settleFirst_36 : decode cX11_settleFirst 36 = .ok (.iconst 0, 1) := by decide +kernel
theorem dX11_settleFirst_37 : decode cX11_settleFirst 37 = .ok (.istore_n 3, 1) := by decide +kernel
theorem dX11_settleFirst_38 : decode cX11_settleFirst 38 = .ok (.iload_n 3, 1) := by decide +kernel
theorem dX11_settleFirst_39 : decode cX11_settleFirst 39 = .ok (.bipush 6, 2) := by decide +kernel
theorem dX11_settleFirst_41 : decode cX11_settleFirst 41 = .ok (.if_icmp .ge 43, 3) := by decide +kernel
theorem dX11_settleFirst_44 : decode cX11_settleFirst 44 = .ok (.iload_n 3, 1) := by decide +kernel
theorem dX11_settleFirst_45 : decode cX11_settleFirst 45 = .ok (.iload_n 1, 1) := by decide +kernel
theorem dX11_settleFirst_46 : decode cX11_settleFirst 46 = .ok (.if_icmp .eq 32, 3) := by decide +kernel
theorem dX11_settleFirst_49 : decode cX11_settleFirst 49 = .ok (.aload_n 0, 1) := by decide +kernel
theorem dX11_settleFirst_50 : decode cX11_settleFirst 50 = .ok (.getfield 19, 3) := by decide +kernel
theorem dX11_settleFirst_53 : decode cX11_settleFirst 53 = .ok (.getfield 279, 3) := by decide +kernel
theorem dX11_settleFirst_56 : decode cX11_settleFirst 56 = .ok (.iload_n 2, 1) := by decide +kernel
theorem dX11_settleFirst_57 : decode cX11_settleFirst 57 = .ok (.bipush 6, 2) := by decide +kernel
theorem dX11_settleFirst_59 : decode cX11_settleFirst 59 = .ok (.imul, 1) := by decide +kernel
theorem dX11_settleFirst_60 : decode cX11_settleFirst 60 = .ok (.iload_n 3, 1) := by decide +kernel
theorem dX11_settleFirst_61 : decode cX11_settleFirst 61 = .ok (.iadd, 1) := by decide +kernel
theorem dX11_settleFirst_62 : decode cX11_settleFirst 62 = .ok (.iaload, 1) := by decide +kernel
theorem dX11_settleFirst_63 : decode cX11_settleFirst 63 = .ok (.ifCond .le 15, 3) := by decide +kernel
theorem dX11_settleFirst_66 : decode cX11_settleFirst 66 = .ok (.aload_n 0, 1) := by decide +kernel
theorem dX11_settleFirst_67 : decode cX11_settleFirst 67 = .ok (.getfield 19, 3) := by decide +kernel
theorem dX11_settleFirst_70 : decode cX11_settleFirst 70 = .ok (.iload_n 1, 1) := by decide +kernel
theorem dX11_settleFirst_71 : decode cX11_settleFirst 71 = .ok (.iload_n 2, 1) := by decide +kernel
theorem dX11_settleFirst_72 : decode cX11_settleFirst 72 = .ok (.iload_n 3, 1) := by decide +kernel
theorem dX11_settleFirst_73 : decode cX11_settleFirst 73 = .ok (.invokevirtual 357, 3) := by decide +kernel
theorem dX11_settleFirst_76 : decode cX11_settleFirst 76 = .ok (.iconst 1, 1) := by decide +kernel
theorem dX11_settleFirst_77 : decode cX11_settleFirst 77 = .ok (.ireturn, 1) := by decide +kernel
theorem dX11_settleFirst_78 : decode cX11_settleFirst 78 = .ok (.iinc 3 1, 3) := by decide +kernel
theorem dX11_settleFirst_81 : decode cX11_settleFirst 81 = .ok (.goto (-43), 3) := by decide +kernel
theorem dX11_settleFirst_84 : decode cX11_settleFirst 84 = .ok (.iinc 2 1, 3) := by decide +kernel
theorem dX11_settleFirst_87 : decode cX11_settleFirst 87 = .ok (.goto (-77), 3) := by decide +kernel
theorem dX11_settleFirst_90 : decode cX11_settleFirst 90 = .ok (.iinc 1 1, 3) := by decide +kernel
theorem dX11_settleFirst_93 : decode cX11_settleFirst 93 = .ok (.goto (-91), 3) := by decide +kernel
theorem dX11_settleFirst_96 : decode cX11_settleFirst 96 = .ok (.iconst 0, 1) := by decide +kernel
theorem dX11_settleFirst_97 : decode cX11_settleFirst 97 = .ok (.ireturn, 1) := by decide +kernel
theorem bkX11_settleFirst_0 {b : Int} {mem : qm} {Q : Int → qm → Prop}
    (l1 : q_At yX11_settleFirst cX11_settleFirst 4 (some .boolean) 3 0 0 (qK (q_rb b) Q) 2 [(2, 0), (0, 0), (4, 0), (4, 0)] [] (q_sh0, q_rb b, mem)) :
    q_At yX11_settleFirst cX11_settleFirst 4 (some .boolean) 3 0 0 (qK (q_rb b) Q) 0 [(2, 0), (4, 0), (4, 0), (4, 0)] [] (q_sh0, q_rb b, mem) := by
  refine qx_iconst dX11_settleFirst_0 rfl rfl ?_
  refine qx_istore_n (L' := [(2, 0), (0, 0), (4, 0), (4, 0)]) dX11_settleFirst_1 rfl rfl rfl rfl ?_
  exact l1
theorem bkX11_settleFirst_2 {b : Int} {mem : qm} {Q : Int → qm → Prop}
    {v1 : Int}
    (l1 : 6 ≤ v1 → Q 0 mem)
    (l2 : v1 < 6 → q_At yX11_settleFirst cX11_settleFirst 4 (some .boolean) 3 0 0 (qK (q_rb b) Q) 10 [(2, 0), (0, v1), (0, 0), (4, 0)] [] (q_sh0, q_rb b, mem)) :
    q_At yX11_settleFirst cX11_settleFirst 4 (some .boolean) 3 0 0 (qK (q_rb b) Q) 2 [(2, 0), (0, v1), (4, 0), (4, 0)] [] (q_sh0, q_rb b, mem) := by
  refine q_iload_n dX11_settleFirst_2 rfl rfl ?_
  refine qx_bipush dX11_settleFirst_3 rfl rfl ?_
  refine qx_icmp_ge (tgt := 96) dX11_settleFirst_5 (by decide) (fun c1 => ?_) (fun c1 => ?_)
  · skip
    refine qx_iconst dX11_settleFirst_96 rfl rfl ?_
    exact q_zret dX11_settleFirst_97 (by decide) (qK_i (l1 c1))
  · skip
    refine qx_iconst dX11_settleFirst_8 rfl rfl ?_
    refine qx_istore_n (L' := [(2, 0), (0, v1), (0, 0), (4, 0)]) dX11_settleFirst_9 rfl rfl rfl rfl ?_
    exact l2 c1
theorem bkX11_settleFirst_10 {b : Int} {mem : qm} {Q : Int → qm → Prop}
    {v1 v2 : Int}
    (o1 : 6 ≤ v2 → q_in32 (v1 + 1))
    (l2 : 6 ≤ v2 → q_At yX11_settleFirst cX11_settleFirst 4 (some .boolean) 3 0 0 (qK (q_rb b) Q) 2 [(2, 0), (0, (v1 + 1)), (4, 0), (4, 0)] [] (q_sh0, q_rb b, mem))
    (o3 : v2 < 6 → q_in32 (v1 * 6) ∧ q_in32 ((v1 * 6) + v2) ∧ (0 ≤ ((v1 * 6) + v2) ∧ ((v1 * 6) + v2) < 36))
    (l4 : v2 < 6 → (mem 12 ((v1 * 6) + v2)) ≠ 0 → q_At yX11_settleFirst cX11_settleFirst 4 (some .boolean) 3 0 0 (qK (q_rb b) Q) 38 [(2, 0), (0, v1), (0, v2), (0, 0)] [] (q_sh0, q_rb b, mem))
    (o5 : v2 < 6 → (mem 12 ((v1 * 6) + v2)) = 0 → q_in32 (v2 + 1))
    (l6 : v2 < 6 → (mem 12 ((v1 * 6) + v2)) = 0 → q_At yX11_settleFirst cX11_settleFirst 4 (some .boolean) 3 0 0 (qK (q_rb b) Q) 10 [(2, 0), (0, v1), (0, (v2 + 1)), (4, 0)] [] (q_sh0, q_rb b, mem)) :
    q_At yX11_settleFirst cX11_settleFirst 4 (some .boolean) 3 0 0 (qK (q_rb b) Q) 10 [(2, 0), (0, v1), (0, v2), (4, 0)] [] (q_sh0, q_rb b, mem) := by
  refine q_iload_n dX11_settleFirst_10 rfl rfl ?_
  refine qx_bipush dX11_settleFirst_11 rfl rfl ?_
  refine qx_icmp_ge (tgt := 90) dX11_settleFirst_13 (by decide) (fun c1 => ?_) (fun c1 => ?_)
  · skip
    refine qx_iinc (L' := [(2, 0), (0, (v1 + 1)), (0, v2), (4, 0)]) dX11_settleFirst_90 rfl rfl rfl (o1 c1) rfl ?_
    refine q_goto (tgt := 2) dX11_settleFirst_93 (by decide) ?_
    refine q_kill (L' := [(2, 0), (0, (v1 + 1)), (4, 0), (4, 0)]) 2 rfl ?_
    exact l2 c1
  · skip
    refine q_aload_n dX11_settleFirst_16 rfl rfl ?_
    refine q_getR (ci := 11) (k := 1) dX11_settleFirst_17 rfl (by decide) rfl tw350 (by decide) qs0 qw0_1 (by decide) ?_
    refine q_getR (ci := 7) (k := 6) dX11_settleFirst_20 rfl (by decide) rfl tw97 (by decide) qs5 qw5_6 (by decide) ?_
    refine q_iload_n dX11_settleFirst_23 rfl rfl ?_
    refine qx_bipush dX11_settleFirst_24 rfl rfl ?_
    refine qx_imul dX11_settleFirst_26 (o3 c1).1 ?_
    refine q_iload_n dX11_settleFirst_27 rfl rfl ?_
    refine qx_iadd dX11_settleFirst_28 (o3 c1).2.1 ?_
    refine qx_iald (v := (mem 12 ((v1 * 6) + v2))) dX11_settleFirst_29 qs12 (o3 c1).2.2 rfl ?_
    refine qx_if_ne (tgt := 36) dX11_settleFirst_30 (by decide) (fun c2 => ?_) (fun c2 => ?_)
    · skip
      refine qx_iconst dX11_settleFirst_36 rfl rfl ?_
      refine qx_istore_n (L' := [(2, 0), (0, v1), (0, v2), (0, 0)]) dX11_settleFirst_37 rfl rfl rfl rfl ?_
      exact l4 c1 c2
    · skip
      refine q_goto (tgt := 84) dX11_settleFirst_33 (by decide) ?_
      refine qx_iinc (L' := [(2, 0), (0, v1), (0, (v2 + 1)), (4, 0)]) dX11_settleFirst_84 rfl rfl rfl (o5 c1 c2) rfl ?_
      refine q_goto (tgt := 10) dX11_settleFirst_87 (by decide) ?_
      exact l6 c1 c2
theorem bkX11_settleFirst_38 {b : Int} {mem : qm} {Q : Int → qm → Prop}
    {v1 v2 v3 : Int}
    (o1 : 6 ≤ v3 → q_in32 (v2 + 1))
    (l2 : 6 ≤ v3 → q_At yX11_settleFirst cX11_settleFirst 4 (some .boolean) 3 0 0 (qK (q_rb b) Q) 10 [(2, 0), (0, v1), (0, (v2 + 1)), (4, 0)] [] (q_sh0, q_rb b, mem))
    (o3 : v3 < 6 → v3 = v1 → q_in32 (v3 + 1))
    (l4 : v3 < 6 → v3 = v1 → q_At yX11_settleFirst cX11_settleFirst 4 (some .boolean) 3 0 0 (qK (q_rb b) Q) 38 [(2, 0), (0, v1), (0, v2), (0, (v3 + 1))] [] (q_sh0, q_rb b, mem))
    (o5 : v3 < 6 → v3 ≠ v1 → q_in32 (v2 * 6) ∧ q_in32 ((v2 * 6) + v3) ∧ (0 ≤ ((v2 * 6) + v3) ∧ ((v2 * 6) + v3) < 36))
    (o6 : v3 < 6 → v3 ≠ v1 → (mem 12 ((v2 * 6) + v3)) ≤ 0 → q_in32 (v3 + 1))
    (l7 : v3 < 6 → v3 ≠ v1 → (mem 12 ((v2 * 6) + v3)) ≤ 0 → q_At yX11_settleFirst cX11_settleFirst 4 (some .boolean) 3 0 0 (qK (q_rb b) Q) 38 [(2, 0), (0, v1), (0, v2), (0, (v3 + 1))] [] (q_sh0, q_rb b, mem))
    {P4 : Int → qm → Prop}
    (l8 : v3 < 6 → v3 ≠ v1 → 0 < (mem 12 ((v2 * 6) + v3)) → q_Ev yX7_passOn cX7_passOn 6 none 2 0 0 [(2, 5), (0, v1), (0, v2), (0, v3)] (q_sh0, q_rb b, mem) (qK (q_rb b) (P4)))
    (l9 : v3 < 6 → v3 ≠ v1 → 0 < (mem 12 ((v2 * 6) + v3)) → ∀ (r4 : Int), ∀ (m4 : qm), P4 r4 m4 → q_in32 r4 → Q 1 m4) :
    q_At yX11_settleFirst cX11_settleFirst 4 (some .boolean) 3 0 0 (qK (q_rb b) Q) 38 [(2, 0), (0, v1), (0, v2), (0, v3)] [] (q_sh0, q_rb b, mem) := by
  refine q_iload_n dX11_settleFirst_38 rfl rfl ?_
  refine qx_bipush dX11_settleFirst_39 rfl rfl ?_
  refine qx_icmp_ge (tgt := 84) dX11_settleFirst_41 (by decide) (fun c1 => ?_) (fun c1 => ?_)
  · skip
    refine qx_iinc (L' := [(2, 0), (0, v1), (0, (v2 + 1)), (0, v3)]) dX11_settleFirst_84 rfl rfl rfl (o1 c1) rfl ?_
    refine q_goto (tgt := 10) dX11_settleFirst_87 (by decide) ?_
    refine q_kill (L' := [(2, 0), (0, v1), (0, (v2 + 1)), (4, 0)]) 3 rfl ?_
    exact l2 c1
  · skip
    refine q_iload_n dX11_settleFirst_44 rfl rfl ?_
    refine q_iload_n dX11_settleFirst_45 rfl rfl ?_
    refine qx_icmp_eq (tgt := 78) dX11_settleFirst_46 (by decide) (fun c2 => ?_) (fun c2 => ?_)
    · skip
      refine qx_iinc (L' := [(2, 0), (0, v1), (0, v2), (0, (v3 + 1))]) dX11_settleFirst_78 rfl rfl rfl (o3 c1 c2) rfl ?_
      refine q_goto (tgt := 38) dX11_settleFirst_81 (by decide) ?_
      exact l4 c1 c2
    · skip
      refine q_aload_n dX11_settleFirst_49 rfl rfl ?_
      refine q_getR (ci := 11) (k := 1) dX11_settleFirst_50 rfl (by decide) rfl tw350 (by decide) qs0 qw0_1 (by decide) ?_
      refine q_getR (ci := 7) (k := 6) dX11_settleFirst_53 rfl (by decide) rfl tw97 (by decide) qs5 qw5_6 (by decide) ?_
      refine q_iload_n dX11_settleFirst_56 rfl rfl ?_
      refine qx_bipush dX11_settleFirst_57 rfl rfl ?_
      refine qx_imul dX11_settleFirst_59 (o5 c1 c2).1 ?_
      refine q_iload_n dX11_settleFirst_60 rfl rfl ?_
      refine qx_iadd dX11_settleFirst_61 (o5 c1 c2).2.1 ?_
      refine qx_iald (v := (mem 12 ((v2 * 6) + v3))) dX11_settleFirst_62 qs12 (o5 c1 c2).2.2 rfl ?_
      refine qx_if_le (tgt := 78) dX11_settleFirst_63 (by decide) (fun c3 => ?_) (fun c3 => ?_)
      · skip
        refine qx_iinc (L' := [(2, 0), (0, v1), (0, v2), (0, (v3 + 1))]) dX11_settleFirst_78 rfl rfl rfl (o6 c1 c2 c3) rfl ?_
        refine q_goto (tgt := 38) dX11_settleFirst_81 (by decide) ?_
        exact l7 c1 c2 c3
      · skip
        refine q_aload_n dX11_settleFirst_66 rfl rfl ?_
        refine q_getR (ci := 11) (k := 1) dX11_settleFirst_67 rfl (by decide) rfl tw350 (by decide) qs0 qw0_1 (by decide) ?_
        refine q_iload_n dX11_settleFirst_70 rfl rfl ?_
        refine q_iload_n dX11_settleFirst_71 rfl rfl ?_
        refine q_iload_n dX11_settleFirst_72 rfl rfl ?_
        refine qx_invV (ci := 7) [(0, v1), (0, v2), (0, v3)] [(0, v3), (0, v2), (0, v1), (2, 5)] rfl qM_X7_passOn dX11_settleFirst_73 tw960 rfl qs5 rfl rfl rfl rfl (l8 c1 c2 c3) (fun r4 m4 p4 q4 => ?_)
        refine qx_iconst dX11_settleFirst_76 rfl rfl ?_
        exact q_zret dX11_settleFirst_77 (by decide) (qK_i (l9 c1 c2 c3 r4 m4 p4 q4))
theorem dX11_settle_0 : decode cX11_settle 0 = .ok (.aload_n 0, 1) := by decide +kernel
theorem dX11_settle_1 : decode cX11_settle 1 = .ok (.getfield 19, 3) := by decide +kernel
theorem dX11_settle_4 : decode cX11_settle 4 = .ok (.invokevirtual 244, 3) := by decide +kernel
theorem dX11_settle_7 : decode cX11_settle 7 = .ok (.istore_n 1, 1) := by decide +kernel
theorem dX11_settle_8 : decode cX11_settle 8 = .ok (.iconst 0, 1) := by decide +kernel
theorem dX11_settle_9 : decode cX11_settle 9 = .ok (.istore_n 2, 1) := by decide +kernel
theorem dX11_settle_10 : decode cX11_settle 10 = .ok (.iload_n 2, 1) := by decide +kernel
theorem dX11_settle_11 : decode cX11_settle 11 = .ok (.bipush 6, 2) := by decide +kernel
theorem dX11_settle_13 : decode cX11_settle 13 = .ok (.if_icmp .ge 34, 3) := by decide +kernel
theorem dX11_settle_16 : decode cX11_settle 16 = .ok (.iload_n 2, 1) := by decide +kernel
theorem dX11_settle_17 : decode cX11_settle 17 = .ok (.iconst 1, 1) := by decide +kernel
theorem dX11_settle_18 : decode cX11_settle 18 = .ok (.iadd, 1) := by decide +kernel
theorem dX11_settle_19 : decode cX11_settle 19 = .ok (.istore_n 3, 1) := by decide +kernel
theorem dX11_settle_20 : decode cX11_settle 20 = .ok (.iload_n 3, 1) := by decide +kernel
theorem dX11_settle_21 : decode cX11_settle 21 = .ok (.bipush 6, 2) := by decide +kernel
theorem dX11_settle_23 : decode cX11_settle 23 = .ok (.if_icmp .ge 18, 3) := by decide +kernel
theorem dX11_settle_26 : decode cX11_settle 26 = .ok (.aload_n 0, 1) := by decide +kernel
theorem dX11_settle_27 : decode cX11_settle 27 = .ok (.getfield 19, 3) := by decide +kernel
theorem dX11_settle_30 : decode cX11_settle 30 = .ok (.iload_n 2, 1) := by decide +kernel
theorem dX11_settle_31 : decode cX11_settle 31 = .ok (.iload_n 3, 1) := by decide +kernel
theorem dX11_settle_32 : decode cX11_settle 32 = .ok (.invokevirtual 350, 3) := by decide +kernel
theorem dX11_settle_35 : decode cX11_settle 35 = .ok (.iinc 3 1, 3) := by decide +kernel
theorem dX11_settle_38 : decode cX11_settle 38 = .ok (.goto (-18), 3) := by decide +kernel
theorem dX11_settle_41 : decode cX11_settle 41 = .ok (.iinc 2 1, 3) := by decide +kernel
theorem dX11_settle_44 : decode cX11_settle 44 = .ok (.goto (-34), 3) := by decide +kernel
theorem dX11_settle_47 : decode cX11_settle 47 = .ok (.iconst 0, 1) := by decide +kernel
theorem dX11_settle_48 : decode cX11_settle 48 = .ok (.istore_n 2, 1) := by decide +kernel
theorem dX11_settle_49 : decode cX11_settle 49 = .ok (.iload_n 2, 1) := by decide +kernel
theorem dX11_settle_50 : decode cX11_settle 50 = .ok (.ldc_w 353, 3) := by decide +kernel
theorem dX11_settle_53 : decode cX11_settle 53 = .ok (.if_icmp .ge 16, 3) := by decide +kernel
theorem dX11_settle_56 : decode cX11_settle 56 = .ok (.aload_n 0, 1) := by decide +kernel
theorem dX11_settle_57 : decode cX11_settle 57 = .ok (.invokevirtual 354, 3) := by decide +kernel
theorem dX11_settle_60 : decode cX11_settle 60 = .ok (.ifCond .eq 9, 3) := by decide +kernel
theorem dX11_settle_63 : decode cX11_settle 63 = .ok (.iinc 2 1, 3) := by decide +kernel
theorem dX11_settle_66 : decode cX11_settle 66 = .ok (.goto (-17), 3) := by decide +kernel
theorem dX11_settle_69 : decode cX11_settle 69 = .ok (.aload_n 0, 1) := by decide +kernel
theorem dX11_settle_70 : decode cX11_settle 70 = .ok (.getfield 45, 3) := by decide +kernel
theorem dX11_settle_73 : decode cX11_settle 73 = .ok (.iconst 0, 1) := by decide +kernel
theorem dX11_settle_74 : decode cX11_settle 74 = .ok (.putfield 122, 3) := by decide +kernel
theorem dX11_settle_77 : decode cX11_settle 77 = .ok (.aload_n 0, 1) := by decide +kernel
theorem dX11_settle_78 : decode cX11_settle 78 = .ok (.invokevirtual 223, 3) := by decide +kernel
theorem dX11_settle_81 : decode cX11_settle 81 = .ok (.aload_n 0, 1) := by decide +kernel
theorem dX11_settle_82 : decode cX11_settle 82 = .ok (.iload_n 1, 1) := by decide +kernel
theorem dX11_settle_83 : decode cX11_settle 83 = .ok (.invokevirtual 229, 3) := by decide +kernel
theorem dX11_settle_86 : decode cX11_settle 86 = .ok (.aload_n 0, 1) := by decide +kernel
theorem dX11_settle_87 : decode cX11_settle 87 = .ok (.aload_n 0, 1) := by decide +kernel
theorem dX11_settle_88 : decode cX11_settle 88 = .ok (.getfield 19, 3) := by decide +kernel
theorem dX11_settle_91 : decode cX11_settle 91 = .ok (.invokevirtual 244, 3) := by decide +kernel
theorem dX11_settle_94 : decode cX11_settle 94 = .ok (.invokevirtual 229, 3) := by decide +kernel
theorem dX11_settle_97 : decode cX11_settle 97 = .ok (.iload_n 2, 1) := by decide +kernel
theorem dX11_settle_98 : decode cX11_settle 98 = .ok (.ireturn, 1) := by decide +kernel
theorem bkX11_settle_0 {b : Int} {mem : qm} {Q : Int → qm → Prop}
    {P1 : Int → qm → Prop}
    (l1 : q_Ev yX7_owedByAll cX7_owedByAll 3 (some .int) 2 0 0 [(2, 5)] (q_sh0, q_rb b, mem) (qK (q_rb b) (P1)))
    (l2 : ∀ (r1 : Int), ∀ (m1 : qm), P1 r1 m1 → q_in32 r1 → q_At yX11_settle cX11_settle 4 (some .int) 4 0 0 (qK (q_rb b) Q) 10 [(2, 0), (0, r1), (0, 0), (4, 0)] [] (q_sh0, q_rb b, m1)) :
    q_At yX11_settle cX11_settle 4 (some .int) 4 0 0 (qK (q_rb b) Q) 0 [(2, 0), (4, 0), (4, 0), (4, 0)] [] (q_sh0, q_rb b, mem) := by
  refine q_aload_n dX11_settle_0 rfl rfl ?_
  refine q_getR (ci := 11) (k := 1) dX11_settle_1 rfl (by decide) rfl tw350 (by decide) qs0 qw0_1 (by decide) ?_
  refine qx_invV (ci := 7) [] [(2, 5)] rfl qM_X7_owedByAll dX11_settle_4 tw724 rfl qs5 rfl rfl rfl rfl (l1) (fun r1 m1 p1 q1 => ?_)
  refine qx_istore_n (L' := [(2, 0), (0, r1), (4, 0), (4, 0)]) dX11_settle_7 rfl rfl rfl rfl ?_
  refine qx_iconst dX11_settle_8 rfl rfl ?_
  refine qx_istore_n (L' := [(2, 0), (0, r1), (0, 0), (4, 0)]) dX11_settle_9 rfl rfl rfl rfl ?_
  exact l2 r1 m1 p1 q1
theorem bkX11_settle_10 {b : Int} {mem : qm} {Q : Int → qm → Prop}
    {v1 v2 : Int}
    (l1 : 6 ≤ v2 → q_At yX11_settle cX11_settle 4 (some .int) 4 0 0 (qK (q_rb b) Q) 49 [(2, 0), (0, v1), (0, 0), (4, 0)] [] (q_sh0, q_rb b, mem))
    (o2 : v2 < 6 → q_in32 (v2 + 1))
    (l3 : v2 < 6 → q_At yX11_settle cX11_settle 4 (some .int) 4 0 0 (qK (q_rb b) Q) 20 [(2, 0), (0, v1), (0, v2), (0, (v2 + 1))] [] (q_sh0, q_rb b, mem)) :
    q_At yX11_settle cX11_settle 4 (some .int) 4 0 0 (qK (q_rb b) Q) 10 [(2, 0), (0, v1), (0, v2), (4, 0)] [] (q_sh0, q_rb b, mem) := by
  refine q_iload_n dX11_settle_10 rfl rfl ?_
  refine qx_bipush dX11_settle_11 rfl rfl ?_
  refine qx_icmp_ge (tgt := 47) dX11_settle_13 (by decide) (fun c1 => ?_) (fun c1 => ?_)
  · skip
    refine qx_iconst dX11_settle_47 rfl rfl ?_
    refine qx_istore_n (L' := [(2, 0), (0, v1), (0, 0), (4, 0)]) dX11_settle_48 rfl rfl rfl rfl ?_
    exact l1 c1
  · skip
    refine q_iload_n dX11_settle_16 rfl rfl ?_
    refine qx_iconst dX11_settle_17 rfl rfl ?_
    refine qx_iadd dX11_settle_18 (o2 c1) ?_
    refine qx_istore_n (L' := [(2, 0), (0, v1), (0, v2), (0, (v2 + 1))]) dX11_settle_19 rfl rfl rfl rfl ?_
    exact l3 c1
theorem bkX11_settle_20 {b : Int} {mem : qm} {Q : Int → qm → Prop}
    {v1 v2 v3 : Int}
    (o1 : 6 ≤ v3 → q_in32 (v2 + 1))
    (l2 : 6 ≤ v3 → q_At yX11_settle cX11_settle 4 (some .int) 4 0 0 (qK (q_rb b) Q) 10 [(2, 0), (0, v1), (0, (v2 + 1)), (4, 0)] [] (q_sh0, q_rb b, mem))
    {P2 : Int → qm → Prop}
    (l3 : v3 < 6 → q_Ev yX7_setOff cX7_setOff 6 none 1 0 0 [(2, 5), (0, v2), (0, v3)] (q_sh0, q_rb b, mem) (qK (q_rb b) (P2)))
    (o4 : v3 < 6 → ∀ (r2 : Int), ∀ (m2 : qm), P2 r2 m2 → q_in32 r2 → q_in32 (v3 + 1))
    (l5 : v3 < 6 → ∀ (r2 : Int), ∀ (m2 : qm), P2 r2 m2 → q_in32 r2 → q_At yX11_settle cX11_settle 4 (some .int) 4 0 0 (qK (q_rb b) Q) 20 [(2, 0), (0, v1), (0, v2), (0, (v3 + 1))] [] (q_sh0, q_rb b, m2)) :
    q_At yX11_settle cX11_settle 4 (some .int) 4 0 0 (qK (q_rb b) Q) 20 [(2, 0), (0, v1), (0, v2), (0, v3)] [] (q_sh0, q_rb b, mem) := by
  refine q_iload_n dX11_settle_20 rfl rfl ?_
  refine qx_bipush dX11_settle_21 rfl rfl ?_
  refine qx_icmp_ge (tgt := 41) dX11_settle_23 (by decide) (fun c1 => ?_) (fun c1 => ?_)
  · skip
    refine qx_iinc (L' := [(2, 0), (0, v1), (0, (v2 + 1)), (0, v3)]) dX11_settle_41 rfl rfl rfl (o1 c1) rfl ?_
    refine q_goto (tgt := 10) dX11_settle_44 (by decide) ?_
    refine q_kill (L' := [(2, 0), (0, v1), (0, (v2 + 1)), (4, 0)]) 3 rfl ?_
    exact l2 c1
  · skip
    refine q_aload_n dX11_settle_26 rfl rfl ?_
    refine q_getR (ci := 11) (k := 1) dX11_settle_27 rfl (by decide) rfl tw350 (by decide) qs0 qw0_1 (by decide) ?_
    refine q_iload_n dX11_settle_30 rfl rfl ?_
    refine q_iload_n dX11_settle_31 rfl rfl ?_
    refine qx_invV (ci := 7) [(0, v2), (0, v3)] [(0, v3), (0, v2), (2, 5)] rfl qM_X7_setOff dX11_settle_32 tw950 rfl qs5 rfl rfl rfl rfl (l3 c1) (fun r2 m2 p2 q2 => ?_)
    refine qx_iinc (L' := [(2, 0), (0, v1), (0, v2), (0, (v3 + 1))]) dX11_settle_35 rfl rfl rfl (o4 c1 r2 m2 p2 q2) rfl ?_
    refine q_goto (tgt := 20) dX11_settle_38 (by decide) ?_
    exact l5 c1 r2 m2 p2 q2
theorem bkX11_settle_49 {b : Int} {mem : qm} {Q : Int → qm → Prop}
    {v1 v2 : Int}
    (o1 : 40000 ≤ v2 → (0 ≤ (0 : Int) ∧ (0 : Int) < 10))
    {P4 : Int → qm → Prop}
    (l2 : 40000 ≤ v2 → q_Ev yX7_owedByAll cX7_owedByAll 3 (some .int) 2 0 0 [(2, 5)] (q_sh0, q_rb b, (q_up (q_up (q_up (q_up mem 33 2 0) 0 16 0) 169 (0 : Int) v1) 0 16 ((0 : Int) + 1))) (qK (q_rb b) (P4)))
    (o3 : 40000 ≤ v2 → ∀ (r4 : Int), ∀ (m4 : qm), P4 r4 m4 → q_in32 r4 → (0 ≤ (m4 0 16) ∧ (m4 0 16) < 10))
    (l4 : 40000 ≤ v2 → ∀ (r4 : Int), ∀ (m4 : qm), P4 r4 m4 → q_in32 r4 → Q v2 (q_up (q_up m4 169 (m4 0 16) r4) 0 16 ((m4 0 16) + 1)))
    {P6 : Int → qm → Prop}
    (l5 : v2 < 40000 → q_Ev yX11_settleFirst cX11_settleFirst 4 (some .boolean) 3 0 0 [(2, 0)] (q_sh0, q_rb b, mem) (qK (q_rb b) (P6)))
    (o6 : v2 < 40000 → ∀ (r6 : Int), ∀ (m6 : qm), P6 r6 m6 → q_in32 r6 → r6 = 0 → (0 ≤ (0 : Int) ∧ (0 : Int) < 10))
    {P10 : Int → qm → Int → qm → Prop}
    (l7 : v2 < 40000 → ∀ (r6 : Int), ∀ (m6 : qm), P6 r6 m6 → q_in32 r6 → r6 = 0 → q_Ev yX7_owedByAll cX7_owedByAll 3 (some .int) 2 0 0 [(2, 5)] (q_sh0, q_rb b, (q_up (q_up (q_up (q_up m6 33 2 0) 0 16 0) 169 (0 : Int) v1) 0 16 ((0 : Int) + 1))) (qK (q_rb b) (P10 r6 m6)))
    (o8 : v2 < 40000 → ∀ (r6 : Int), ∀ (m6 : qm), P6 r6 m6 → q_in32 r6 → r6 = 0 → ∀ (r10 : Int), ∀ (m10 : qm), P10 r6 m6 r10 m10 → q_in32 r10 → (0 ≤ (m10 0 16) ∧ (m10 0 16) < 10))
    (l9 : v2 < 40000 → ∀ (r6 : Int), ∀ (m6 : qm), P6 r6 m6 → q_in32 r6 → r6 = 0 → ∀ (r10 : Int), ∀ (m10 : qm), P10 r6 m6 r10 m10 → q_in32 r10 → Q v2 (q_up (q_up m10 169 (m10 0 16) r10) 0 16 ((m10 0 16) + 1)))
    (o10 : v2 < 40000 → ∀ (r6 : Int), ∀ (m6 : qm), P6 r6 m6 → q_in32 r6 → r6 ≠ 0 → q_in32 (v2 + 1))
    (l11 : v2 < 40000 → ∀ (r6 : Int), ∀ (m6 : qm), P6 r6 m6 → q_in32 r6 → r6 ≠ 0 → q_At yX11_settle cX11_settle 4 (some .int) 4 0 0 (qK (q_rb b) Q) 49 [(2, 0), (0, v1), (0, (v2 + 1)), (4, 0)] [] (q_sh0, q_rb b, m6)) :
    q_At yX11_settle cX11_settle 4 (some .int) 4 0 0 (qK (q_rb b) Q) 49 [(2, 0), (0, v1), (0, v2), (4, 0)] [] (q_sh0, q_rb b, mem) := by
  refine q_iload_n dX11_settle_49 rfl rfl ?_
  refine q_ldcw (v := 40000) dX11_settle_50 tw955 rfl (q_inb_ok rfl) ?_
  refine qx_icmp_ge (tgt := 69) dX11_settle_53 (by decide) (fun c1 => ?_) (fun c1 => ?_)
  · skip
    refine q_aload_n dX11_settle_69 rfl rfl ?_
    refine q_getR (ci := 11) (k := 5) dX11_settle_70 rfl (by decide) rfl tw354 (by decide) qs0 qw0_5 (by decide) ?_
    refine qx_iconst dX11_settle_73 rfl rfl ?_
    refine q_putI (ci := 3) (k := 2) (kI := 2) (ty := .int) dX11_settle_74 rfl (by decide) rfl tw195 rfl rfl rfl (fun _ => ⟨rfl, rfl⟩) qs33 ?_
    refine q_aload_n dX11_settle_77 rfl rfl ?_
    refine qx_invV (ci := 11) [] [(2, 0)] rfl qM_X11_clearRow dX11_settle_78 tw691 rfl qs0 rfl rfl rfl rfl (spX11_clearRow) (fun r2 m2 p2 q2 => ?_)
    obtain rfl := p2
    refine q_aload_n dX11_settle_81 rfl rfl ?_
    refine q_iload_n dX11_settle_82 rfl rfl ?_
    refine qx_invV (ci := 11) [(0, v1)] [(0, v1), (2, 0)] rfl qM_X11_tell dX11_settle_83 tw699 rfl qs0 rfl rfl rfl rfl (spX11_tell (by first | exact (o1 c1) | (simp only [q_up, Int.reduceEq, false_and, true_and, and_true, and_false, ite_false, ite_true, if_true, if_false]; exact (o1 c1)))) (fun r3 m3 p3 q3 => ?_)
    obtain rfl := p3
    refine q_aload_n dX11_settle_86 rfl rfl ?_
    refine q_aload_n dX11_settle_87 rfl rfl ?_
    refine q_getR (ci := 11) (k := 1) dX11_settle_88 rfl (by decide) rfl tw350 (by decide) qs0 qw0_1 (by decide) ?_
    refine qx_invV (ci := 7) [] [(2, 5), (2, 0)] rfl qM_X7_owedByAll dX11_settle_91 tw724 rfl qs5 rfl rfl rfl rfl (l2 c1) (fun r4 m4 p4 q4 => ?_)
    refine qx_invV (ci := 11) [(0, r4)] [(0, r4), (2, 0)] rfl qM_X11_tell dX11_settle_94 tw699 rfl qs0 rfl rfl rfl rfl (spX11_tell (o3 c1 r4 m4 p4 q4)) (fun r5 m5 p5 q5 => ?_)
    obtain rfl := p5
    refine q_iload_n dX11_settle_97 rfl rfl ?_
    exact q_iret dX11_settle_98 (qK_i (l4 c1 r4 m4 p4 q4))
  · skip
    refine q_aload_n dX11_settle_56 rfl rfl ?_
    refine qx_invV (ci := 11) [] [(2, 0)] rfl qM_X11_settleFirst dX11_settle_57 tw956 rfl qs0 rfl rfl rfl rfl (l5 c1) (fun r6 m6 p6 q6 => ?_)
    refine qx_if_eq (tgt := 69) dX11_settle_60 (by decide) (fun c7 => ?_) (fun c7 => ?_)
    · skip
      refine q_aload_n dX11_settle_69 rfl rfl ?_
      refine q_getR (ci := 11) (k := 5) dX11_settle_70 rfl (by decide) rfl tw354 (by decide) qs0 qw0_5 (by decide) ?_
      refine qx_iconst dX11_settle_73 rfl rfl ?_
      refine q_putI (ci := 3) (k := 2) (kI := 2) (ty := .int) dX11_settle_74 rfl (by decide) rfl tw195 rfl rfl rfl (fun _ => ⟨rfl, rfl⟩) qs33 ?_
      refine q_aload_n dX11_settle_77 rfl rfl ?_
      refine qx_invV (ci := 11) [] [(2, 0)] rfl qM_X11_clearRow dX11_settle_78 tw691 rfl qs0 rfl rfl rfl rfl (spX11_clearRow) (fun r8 m8 p8 q8 => ?_)
      obtain rfl := p8
      refine q_aload_n dX11_settle_81 rfl rfl ?_
      refine q_iload_n dX11_settle_82 rfl rfl ?_
      refine qx_invV (ci := 11) [(0, v1)] [(0, v1), (2, 0)] rfl qM_X11_tell dX11_settle_83 tw699 rfl qs0 rfl rfl rfl rfl (spX11_tell (by first | exact (o6 c1 r6 m6 p6 q6 c7) | (simp only [q_up, Int.reduceEq, false_and, true_and, and_true, and_false, ite_false, ite_true, if_true, if_false]; exact (o6 c1 r6 m6 p6 q6 c7)))) (fun r9 m9 p9 q9 => ?_)
      obtain rfl := p9
      refine q_aload_n dX11_settle_86 rfl rfl ?_
      refine q_aload_n dX11_settle_87 rfl rfl ?_
      refine q_getR (ci := 11) (k := 1) dX11_settle_88 rfl (by decide) rfl tw350 (by decide) qs0 qw0_1 (by decide) ?_
      refine qx_invV (ci := 7) [] [(2, 5), (2, 0)] rfl qM_X7_owedByAll dX11_settle_91 tw724 rfl qs5 rfl rfl rfl rfl (l7 c1 r6 m6 p6 q6 c7) (fun r10 m10 p10 q10 => ?_)
      refine qx_invV (ci := 11) [(0, r10)] [(0, r10), (2, 0)] rfl qM_X11_tell dX11_settle_94 tw699 rfl qs0 rfl rfl rfl rfl (spX11_tell (o8 c1 r6 m6 p6 q6 c7 r10 m10 p10 q10)) (fun r11 m11 p11 q11 => ?_)
      obtain rfl := p11
      refine q_iload_n dX11_settle_97 rfl rfl ?_
      exact q_iret dX11_settle_98 (qK_i (l9 c1 r6 m6 p6 q6 c7 r10 m10 p10 q10))
    · skip
      refine qx_iinc (L' := [(2, 0), (0, v1), (0, (v2 + 1)), (4, 0)]) dX11_settle_63 rfl rfl rfl (o10 c1 r6 m6 p6 q6 c7) rfl ?_
      refine q_goto (tgt := 49) dX11_settle_66 (by decide) ?_
      exact l11 c1 r6 m6 p6 q6 c7
