theorem dX11_tell_0 : decode cX11_tell 0 = .ok (.aload_n 0, 1) := by decide +kernel
theorem dX11_tell_1 : decode cX11_tell 1 = .ok (.getfield 414, 3) := by decide +kernel
theorem dX11_tell_4 : decode cX11_tell 4 = .ok (.bipush 10, 2) := by decide +kernel
theorem dX11_tell_6 : decode cX11_tell 6 = .ok (.if_icmp .ge 23, 3) := by decide +kernel
theorem dX11_tell_9 : decode cX11_tell 9 = .ok (.aload_n 0, 1) := by decide +kernel
theorem dX11_tell_10 : decode cX11_tell 10 = .ok (.getfield 104, 3) := by decide +kernel
theorem dX11_tell_13 : decode cX11_tell 13 = .ok (.aload_n 0, 1) := by decide +kernel
theorem dX11_tell_14 : decode cX11_tell 14 = .ok (.getfield 414, 3) := by decide +kernel
theorem dX11_tell_17 : decode cX11_tell 17 = .ok (.iload_n 1, 1) := by decide +kernel
theorem dX11_tell_18 : decode cX11_tell 18 = .ok (.iastore, 1) := by decide +kernel
theorem dX11_tell_19 : decode cX11_tell 19 = .ok (.aload_n 0, 1) := by decide +kernel
theorem dX11_tell_20 : decode cX11_tell 20 = .ok (.dup, 1) := by decide +kernel
theorem dX11_tell_21 : decode cX11_tell 21 = .ok (.getfield 414, 3) := by decide +kernel
theorem dX11_tell_24 : decode cX11_tell 24 = .ok (.iconst 1, 1) := by decide +kernel
theorem dX11_tell_25 : decode cX11_tell 25 = .ok (.iadd, 1) := by decide +kernel
theorem dX11_tell_26 : decode cX11_tell 26 = .ok (.putfield 414, 3) := by decide +kernel
theorem dX11_tell_29 : decode cX11_tell 29 = .ok (.return_, 1) := by decide +kernel
theorem bkX11_tell_0 {b : Int} {mem : qm} {Q : Int → qm → Prop}
    {v : Int}
    (l1 : 10 ≤ (mem 0 16) → Q 0 mem)
    (o2 : (mem 0 16) < 10 → (0 ≤ (mem 0 16) ∧ (mem 0 16) < 10) ∧ q_in32 ((mem 0 16) + 1))
    (l3 : (mem 0 16) < 10 → Q 0 (q_up (q_up mem 169 (mem 0 16) v) 0 16 ((mem 0 16) + 1))) :
    q_At yX11_tell cX11_tell 2 none 1 0 0 (qK (q_rb b) Q) 0 [(2, 0), (0, v)] [] (q_sh0, q_rb b, mem) := by
  refine q_aload_n dX11_tell_0 rfl rfl ?_
  refine qx_getI (ci := 11) (k := 16) (v := (mem 0 16)) dX11_tell_1 rfl rfl rfl tw365 rfl qs0 rfl ?_
  refine qx_bipush dX11_tell_4 rfl rfl ?_
  refine qx_icmp_ge (tgt := 29) dX11_tell_6 (by decide) (fun c1 => ?_) (fun c1 => ?_)
  · skip
    exact q_vret dX11_tell_29 (qK_i (l1 c1))
  · skip
    refine q_aload_n dX11_tell_9 rfl rfl ?_
    refine q_getR (ci := 11) (k := 15) dX11_tell_10 rfl (by decide) rfl tw364 (by decide) qs0 qw0_15 (by decide) ?_
    refine q_aload_n dX11_tell_13 rfl rfl ?_
    refine qx_getI (ci := 11) (k := 16) (v := (mem 0 16)) dX11_tell_14 rfl rfl rfl tw365 rfl qs0 rfl ?_
    refine q_iload_n dX11_tell_17 rfl rfl ?_
    refine q_iast dX11_tell_18 qs169 ((o2 c1).1).1 ((o2 c1).1).2 ?_
    refine q_aload_n dX11_tell_19 rfl rfl ?_
    refine q_dup dX11_tell_20 (fun h => by cases h) ?_
    refine qx_getI (ci := 11) (k := 16) (v := (mem 0 16)) dX11_tell_21 rfl rfl rfl tw365 rfl qs0 (q_up_c (by decide)) ?_
    refine qx_iconst dX11_tell_24 rfl rfl ?_
    refine qx_iadd dX11_tell_25 (o2 c1).2 ?_
    refine q_putI (ci := 11) (k := 16) (kI := 16) (ty := .int) dX11_tell_26 rfl (by decide) rfl tw365 rfl rfl rfl (fun _ => ⟨rfl, rfl⟩) qs0 ?_
    exact q_vret dX11_tell_29 (qK_i (l3 c1))
theorem spX11_tell {b v : Int} {mem : qm} (g0 : (0 ≤ (mem 0 16) ∧ (mem 0 16) < 10)) : q_Ev yX11_tell cX11_tell 2 none 1 0 0 [(2, 0), (0, v)] (q_sh0, q_rb b, mem) (qK (q_rb b) (fun r m => m = (q_up (q_up mem 169 (mem 0 16) v) 0 16 ((mem 0 16) + 1)))) := by
  refine q_enter (by decide +kernel) (by simp) (Nat.le_of_ble_eq_true rfl) ?_
  exact bkX11_tell_0 (by intros; first | rfl | (exfalso; omega)) (by intros; (repeat' (first | (refine And.intro ?_ ?_) | (refine q_in_of ?_ ?_))) <;> omega) (by intros; first | rfl | (exfalso; omega))
theorem dX12_tell_0 : decode cX12_tell 0 = .ok (.aload_n 0, 1) := by decide +kernel
theorem dX12_tell_1 : decode cX12_tell 1 = .ok (.getfield 45, 3) := by decide +kernel
theorem dX12_tell_4 : decode cX12_tell 4 = .ok (.aload_n 0, 1) := by decide +kernel
theorem dX12_tell_5 : decode cX12_tell 5 = .ok (.getfield 131, 3) := by decide +kernel
theorem dX12_tell_8 : decode cX12_tell 8 = .ok (.iload_n 1, 1) := by decide +kernel
theorem dX12_tell_9 : decode cX12_tell 9 = .ok (.iastore, 1) := by decide +kernel
theorem dX12_tell_10 : decode cX12_tell 10 = .ok (.aload_n 0, 1) := by decide +kernel
theorem dX12_tell_11 : decode cX12_tell 11 = .ok (.dup, 1) := by decide +kernel
theorem dX12_tell_12 : decode cX12_tell 12 = .ok (.getfield 131, 3) := by decide +kernel
theorem dX12_tell_15 : decode cX12_tell 15 = .ok (.iconst 1, 1) := by decide +kernel
theorem dX12_tell_16 : decode cX12_tell 16 = .ok (.iadd, 1) := by decide +kernel
theorem dX12_tell_17 : decode cX12_tell 17 = .ok (.putfield 131, 3) := by decide +kernel
theorem dX12_tell_20 : decode cX12_tell 20 = .ok (.return_, 1) := by decide +kernel
theorem bkX12_tell_0 {b : Int} {mem : qm} {Q : Int → qm → Prop}
    {v : Int}
    (o1 : (0 ≤ (mem 188 16) ∧ (mem 188 16) < 16) ∧ q_in32 ((mem 188 16) + 1))
    (l2 : Q 0 (q_up (q_up mem 199 (mem 188 16) v) 188 16 ((mem 188 16) + 1))) :
    q_At yX12_tell cX12_tell 2 none 1 0 0 (qK (q_rb b) Q) 0 [(2, 188), (0, v)] [] (q_sh0, q_rb b, mem) := by
  refine q_aload_n dX12_tell_0 rfl rfl ?_
  refine q_getR (ci := 12) (k := 15) dX12_tell_1 rfl (by decide) rfl tw1198 (by decide) qs188 qw188_15 (by decide) ?_
  refine q_aload_n dX12_tell_4 rfl rfl ?_
  refine qx_getI (ci := 12) (k := 16) (v := (mem 188 16)) dX12_tell_5 rfl rfl rfl tw1199 rfl qs188 rfl ?_
  refine q_iload_n dX12_tell_8 rfl rfl ?_
  refine q_iast dX12_tell_9 qs199 ((o1).1).1 ((o1).1).2 ?_
  refine q_aload_n dX12_tell_10 rfl rfl ?_
  refine q_dup dX12_tell_11 (fun h => by cases h) ?_
  refine qx_getI (ci := 12) (k := 16) (v := (mem 188 16)) dX12_tell_12 rfl rfl rfl tw1199 rfl qs188 (q_up_c (by decide)) ?_
  refine qx_iconst dX12_tell_15 rfl rfl ?_
  refine qx_iadd dX12_tell_16 (o1).2 ?_
  refine q_putI (ci := 12) (k := 16) (kI := 16) (ty := .int) dX12_tell_17 rfl (by decide) rfl tw1199 rfl rfl rfl (fun _ => ⟨rfl, rfl⟩) qs188 ?_
  exact q_vret dX12_tell_20 (qK_i (l2))
theorem spX12_tell {b v : Int} {mem : qm} (g0 : (0 ≤ (mem 188 16) ∧ (mem 188 16) < 16)) : q_Ev yX12_tell cX12_tell 2 none 1 0 0 [(2, 188), (0, v)] (q_sh0, q_rb b, mem) (qK (q_rb b) (fun r m => m = (q_up (q_up mem 199 (mem 188 16) v) 188 16 ((mem 188 16) + 1)))) := by
  refine q_enter (by decide +kernel) (by simp) (Nat.le_of_ble_eq_true rfl) ?_
  exact bkX12_tell_0 (by intros; (repeat' (first | (refine And.intro ?_ ?_) | (refine q_in_of ?_ ?_))) <;> omega) (by intros; first | rfl | (simp only [Int.add_zero]))
theorem dX11_later_0 : decode cX11_later 0 = .ok (.aload_n 0, 1) := by decide +kernel
theorem dX11_later_1 : decode cX11_later 1 = .ok (.iload_n 1, 1) := by decide +kernel
theorem dX11_later_2 : decode cX11_later 2 = .ok (.invokevirtual 131, 3) := by decide +kernel
theorem dX11_later_5 : decode cX11_later 5 = .ok (.ifCond .eq 10, 3) := by decide +kernel
theorem dX11_later_8 : decode cX11_later 8 = .ok (.iload_n 2, 1) := by decide +kernel
theorem dX11_later_9 : decode cX11_later 9 = .ok (.invokestatic 214, 3) := by decide +kernel
theorem dX11_later_12 : decode cX11_later 12 = .ok (.ifCond .ne 5, 3) := by decide +kernel
theorem dX11_later_15 : decode cX11_later 15 = .ok (.iconst (-1), 1) := by decide +kernel
theorem dX11_later_16 : decode cX11_later 16 = .ok (.ireturn, 1) := by decide +kernel
theorem dX11_later_17 : decode cX11_later 17 = .ok (.aload_n 0, 1) := by decide +kernel
theorem dX11_later_18 : decode cX11_later 18 = .ok (.getfield 38, 3) := by decide +kernel
theorem dX11_later_21 : decode cX11_later 21 = .ok (.aload_n 0, 1) := by decide +kernel
theorem dX11_later_22 : decode cX11_later 22 = .ok (.getfield 19, 3) := by decide +kernel
theorem dX11_later_25 : decode cX11_later 25 = .ok (.invokevirtual 282, 3) := by decide +kernel
theorem dX11_later_28 : decode cX11_later 28 = .ok (.aload_n 0, 1) := by decide +kernel
theorem dX11_later_29 : decode cX11_later 29 = .ok (.getfield 38, 3) := by decide +kernel
theorem dX11_later_32 : decode cX11_later 32 = .ok (.iload_n 2, 1) := by decide +kernel
theorem dX11_later_33 : decode cX11_later 33 = .ok (.invokevirtual 300, 3) := by decide +kernel
theorem dX11_later_36 : decode cX11_later 36 = .ok (.aload_n 0, 1) := by decide +kernel
theorem dX11_later_37 : decode cX11_later 37 = .ok (.getfield 38, 3) := by decide +kernel
theorem dX11_later_40 : decode cX11_later 40 = .ok (.getfield 299, 3) := by decide +kernel
theorem dX11_later_43 : decode cX11_later 43 = .ok (.iload_n 1, 1) := by decide +kernel
theorem dX11_later_44 : decode cX11_later 44 = .ok (.iaload, 1) := by decide +kernel
theorem dX11_later_45 : decode cX11_later 45 = .ok (.ireturn, 1) := by decide +kernel
theorem bkX11_later_0 {b : Int} {mem : qm} {Q : Int → qm → Prop}
    {j n : Int}
    {P3 : Int → qm → Prop}
    (l1 : (0 ≤ j ∧ j < (mem 1 3)) → (0 ≤ n ∧ n ≤ 200) → q_Ev yX1_start cX1_start 2 none 2 0 0 [(2, 26), (2, 5)] (q_sh0, q_rb b, mem) (qK (q_rb b) (P3)))
    {P4 : Int → qm → Int → qm → Prop}
    (l2 : (0 ≤ j ∧ j < (mem 1 3)) → (0 ≤ n ∧ n ≤ 200) → ∀ (r3 : Int), ∀ (m3 : qm), P3 r3 m3 → q_in32 r3 → q_Ev yX1_strikeAll cX1_strikeAll 3 none 3 0 0 [(2, 26), (0, n)] (q_sh0, q_rb b, m3) (qK (q_rb b) (P4 r3 m3)))
    (o3 : (0 ≤ j ∧ j < (mem 1 3)) → (0 ≤ n ∧ n ≤ 200) → ∀ (r3 : Int), ∀ (m3 : qm), P3 r3 m3 → q_in32 r3 → ∀ (r4 : Int), ∀ (m4 : qm), P4 r3 m3 r4 m4 → q_in32 r4 → (0 ≤ j ∧ j < 9))
    (l4 : (0 ≤ j ∧ j < (mem 1 3)) → (0 ≤ n ∧ n ≤ 200) → ∀ (r3 : Int), ∀ (m3 : qm), P3 r3 m3 → q_in32 r3 → ∀ (r4 : Int), ∀ (m4 : qm), P4 r3 m3 r4 m4 → q_in32 r4 → Q (m4 27 j) m4)
    (l5 : (0 ≤ j ∧ j < (mem 1 3)) → ¬ (0 ≤ n ∧ n ≤ 200) → Q (-1) mem)
    (l6 : ¬ (0 ≤ j ∧ j < (mem 1 3)) → Q (-1) mem) :
    q_At yX11_later cX11_later 3 (some .int) 4 0 0 (qK (q_rb b) Q) 0 [(2, 0), (0, j), (0, n)] [] (q_sh0, q_rb b, mem) := by
  refine q_aload_n dX11_later_0 rfl rfl ?_
  refine q_iload_n dX11_later_1 rfl rfl ?_
  refine qx_invV (ci := 11) [(0, j)] [(0, j), (2, 0)] rfl qM_X11_isJar dX11_later_2 tw576 rfl qs0 rfl rfl rfl rfl (spX11_isJar) (fun r1 m1 p1 q1 => ?_)
  obtain ⟨p1e, ⟨p1f, p1⟩ | ⟨p1f, p1⟩⟩ := p1
  · rw [p1e, p1f]
    refine qx_if_eq (tgt := 15) dX11_later_5 (by decide) (fun z => absurd z (by decide)) (fun _ => ?_)
    refine q_iload_n dX11_later_8 rfl rfl ?_
    refine qx_invS [(0, n)] [(0, n)] rfl qM_X11_isSpan dX11_later_9 tw668 rfl rfl rfl rfl (spX11_isSpan) (fun r2 m2 p2 q2 => ?_)
    obtain ⟨p2e, ⟨p2f, p2⟩ | ⟨p2f, p2⟩⟩ := p2
    · rw [p2e, p2f]
      refine qx_if_ne (tgt := 17) dX11_later_12 (by decide) (fun _ => ?_) (fun z => absurd z (by decide))
      refine q_aload_n dX11_later_17 rfl rfl ?_
      refine q_getR (ci := 11) (k := 4) dX11_later_18 rfl (by decide) rfl tw353 (by decide) qs0 qw0_4 (by decide) ?_
      refine q_aload_n dX11_later_21 rfl rfl ?_
      refine q_getR (ci := 11) (k := 1) dX11_later_22 rfl (by decide) rfl tw350 (by decide) qs0 qw0_1 (by decide) ?_
      refine qx_invV (ci := 1) [(2, 5)] [(2, 5), (2, 26)] rfl qM_X1_start dX11_later_25 tw767 rfl qs26 rfl rfl rfl rfl (l1 p1 p2) (fun r3 m3 p3 q3 => ?_)
      refine q_aload_n dX11_later_28 rfl rfl ?_
      refine q_getR (ci := 11) (k := 4) dX11_later_29 rfl (by decide) rfl tw353 (by decide) qs0 qw0_4 (by decide) ?_
      refine q_iload_n dX11_later_32 rfl rfl ?_
      refine qx_invV (ci := 1) [(0, n)] [(0, n), (2, 26)] rfl qM_X1_strikeAll dX11_later_33 tw804 rfl qs26 rfl rfl rfl rfl (l2 p1 p2 r3 m3 p3 q3) (fun r4 m4 p4 q4 => ?_)
      refine q_aload_n dX11_later_36 rfl rfl ?_
      refine q_getR (ci := 11) (k := 4) dX11_later_37 rfl (by decide) rfl tw353 (by decide) qs0 qw0_4 (by decide) ?_
      refine q_getR (ci := 1) (k := 1) dX11_later_40 rfl (by decide) rfl tw153 (by decide) qs26 qw26_1 (by decide) ?_
      refine q_iload_n dX11_later_43 rfl rfl ?_
      refine qx_iald (v := (m4 27 j)) dX11_later_44 qs27 (o3 p1 p2 r3 m3 p3 q3 r4 m4 p4 q4) rfl ?_
      exact q_iret dX11_later_45 (qK_i (l4 p1 p2 r3 m3 p3 q3 r4 m4 p4 q4))
    · rw [p2e, p2f]
      refine qx_if_ne (tgt := 17) dX11_later_12 (by decide) (fun z => absurd z (by decide)) (fun _ => ?_)
      refine qx_iconst dX11_later_15 rfl rfl ?_
      exact q_iret dX11_later_16 (qK_i (l5 p1 p2))
  · rw [p1e, p1f]
    refine qx_if_eq (tgt := 15) dX11_later_5 (by decide) (fun _ => ?_) (fun z => absurd z (by decide))
    refine qx_iconst dX11_later_15 rfl rfl ?_
    exact q_iret dX11_later_16 (qK_i (l6 p1))
theorem dX12_levelIn_0 : decode cX12_levelIn 0 = .ok (.aload_n 0, 1) := by decide +kernel
theorem dX12_levelIn_1 : decode cX12_levelIn 1 = .ok (.invokevirtual 312, 3) := by decide +kernel
theorem dX12_levelIn_4 : decode cX12_levelIn 4 = .ok (.aload_n 0, 1) := by decide +kernel
theorem dX12_levelIn_5 : decode cX12_levelIn 5 = .ok (.iload_n 2, 1) := by decide +kernel
theorem dX12_levelIn_6 : decode cX12_levelIn 6 = .ok (.invokevirtual 317, 3) := by decide +kernel
theorem dX12_levelIn_9 : decode cX12_levelIn 9 = .ok (.pop, 1) := by decide +kernel
theorem dX12_levelIn_10 : decode cX12_levelIn 10 = .ok (.aload_n 0, 1) := by decide +kernel
theorem dX12_levelIn_11 : decode cX12_levelIn 11 = .ok (.getfield 72, 3) := by decide +kernel
theorem dX12_levelIn_14 : decode cX12_levelIn 14 = .ok (.iload_n 1, 1) := by decide +kernel
theorem dX12_levelIn_15 : decode cX12_levelIn 15 = .ok (.iaload, 1) := by decide +kernel
theorem dX12_levelIn_16 : decode cX12_levelIn 16 = .ok (.ireturn, 1) := by decide +kernel
theorem bkX12_levelIn_0 {b : Int} {mem : qm} {Q : Int → qm → Prop}
    {j n : Int}
    {P1 : Int → qm → Prop}
    (l1 : q_Ev yX12_begin_ cX12_begin_ 2 none 1 0 0 [(2, 188)] (q_sh0, q_rb b, mem) (qK (q_rb b) (P1)))
    {P2 : Int → qm → Int → qm → Prop}
    (l2 : ∀ (r1 : Int), ∀ (m1 : qm), P1 r1 m1 → q_in32 r1 → q_Ev yX12_goOn_ cX12_goOn_ 4 (some .int) 2 0 0 [(2, 188), (0, n)] (q_sh0, q_rb b, m1) (qK (q_rb b) (P2 r1 m1)))
    (o3 : ∀ (r1 : Int), ∀ (m1 : qm), P1 r1 m1 → q_in32 r1 → ∀ (r2 : Int), ∀ (m2 : qm), P2 r1 m1 r2 m2 → q_in32 r2 → (0 ≤ j ∧ j < 9))
    (l4 : ∀ (r1 : Int), ∀ (m1 : qm), P1 r1 m1 → q_in32 r1 → ∀ (r2 : Int), ∀ (m2 : qm), P2 r1 m1 r2 m2 → q_in32 r2 → Q (m2 207 j) m2) :
    q_At yX12_levelIn cX12_levelIn 3 (some .int) 3 0 0 (qK (q_rb b) Q) 0 [(2, 188), (0, j), (0, n)] [] (q_sh0, q_rb b, mem) := by
  refine q_aload_n dX12_levelIn_0 rfl rfl ?_
  refine qx_invV (ci := 12) [] [(2, 188)] rfl qM_X12_begin_ dX12_levelIn_1 tw1559 rfl qs188 rfl rfl rfl rfl (l1) (fun r1 m1 p1 q1 => ?_)
  refine q_aload_n dX12_levelIn_4 rfl rfl ?_
  refine q_iload_n dX12_levelIn_5 rfl rfl ?_
  refine qx_invV (ci := 12) [(0, n)] [(0, n), (2, 188)] rfl qM_X12_goOn_ dX12_levelIn_6 tw1583 rfl qs188 rfl rfl rfl rfl (l2 r1 m1 p1 q1) (fun r2 m2 p2 q2 => ?_)
  refine q_pop dX12_levelIn_9 (fun h => by cases h) ?_
  refine q_aload_n dX12_levelIn_10 rfl rfl ?_
  refine q_getR (ci := 12) (k := 33) dX12_levelIn_11 rfl (by decide) rfl tw1216 (by decide) qs188 qw188_33 (by decide) ?_
  refine q_iload_n dX12_levelIn_14 rfl rfl ?_
  refine qx_iald (v := (m2 207 j)) dX12_levelIn_15 qs207 (o3 r1 m1 p1 q1 r2 m2 p2 q2) rfl ?_
  exact q_iret dX12_levelIn_16 (qK_i (l4 r1 m1 p1 q1 r2 m2 p2 q2))
theorem dX12_later_0 : decode cX12_later 0 = .ok (.aload_n 0, 1) := by decide +kernel
theorem dX12_later_1 : decode cX12_later 1 = .ok (.iconst 0, 1) := by decide +kernel
theorem dX12_later_2 : decode cX12_later 2 = .ok (.putfield 128, 3) := by decide +kernel
theorem dX12_later_5 : decode cX12_later 5 = .ok (.aload_n 0, 1) := by decide +kernel
theorem dX12_later_6 : decode cX12_later 6 = .ok (.iload_n 1, 1) := by decide +kernel
theorem dX12_later_7 : decode cX12_later 7 = .ok (.invokevirtual 225, 3) := by decide +kernel
theorem dX12_later_10 : decode cX12_later 10 = .ok (.ifCond .eq 19, 3) := by decide +kernel
theorem dX12_later_13 : decode cX12_later 13 = .ok (.iload_n 2, 1) := by decide +kernel
theorem dX12_later_14 : decode cX12_later 14 = .ok (.invokestatic 270, 3) := by decide +kernel
theorem dX12_later_17 : decode cX12_later 17 = .ok (.ifCond .eq 12, 3) := by decide +kernel
theorem dX12_later_20 : decode cX12_later 20 = .ok (.aload_n 0, 1) := by decide +kernel
theorem dX12_later_21 : decode cX12_later 21 = .ok (.iload_n 1, 1) := by decide +kernel
theorem dX12_later_22 : decode cX12_later 22 = .ok (.iload_n 2, 1) := by decide +kernel
theorem dX12_later_23 : decode cX12_later 23 = .ok (.invokevirtual 319, 3) := by decide +kernel
theorem dX12_later_26 : decode cX12_later 26 = .ok (.goto 4, 3) := by decide +kernel
theorem dX12_later_29 : decode cX12_later 29 = .ok (.iconst (-1), 1) := by decide +kernel
theorem dX12_later_30 : decode cX12_later 30 = .ok (.ireturn, 1) := by decide +kernel
theorem bkX12_later_0 {b : Int} {mem : qm} {Q : Int → qm → Prop}
    {j n : Int}
    (o1 : q_in32 ((mem 188 0) - 1))
    {P3 : Int → qm → Prop}
    (l2 : (0 ≤ j ∧ j ≤ (mem 188 0) - 1) → (0 ≤ n ∧ n ≤ 200) → q_Ev yX12_levelIn cX12_levelIn 3 (some .int) 3 0 0 [(2, 188), (0, j), (0, n)] (q_sh0, q_rb b, (q_up mem 188 17 0)) (qK (q_rb b) (P3)))
    (l3 : (0 ≤ j ∧ j ≤ (mem 188 0) - 1) → (0 ≤ n ∧ n ≤ 200) → ∀ (r3 : Int), ∀ (m3 : qm), P3 r3 m3 → q_in32 r3 → Q r3 m3)
    (l4 : (0 ≤ j ∧ j ≤ (mem 188 0) - 1) → ¬ (0 ≤ n ∧ n ≤ 200) → Q (-1) (q_up mem 188 17 0))
    (l5 : ¬ (0 ≤ j ∧ j ≤ (mem 188 0) - 1) → Q (-1) (q_up mem 188 17 0)) :
    q_At yX12_later cX12_later 3 (some .int) 4 0 0 (qK (q_rb b) Q) 0 [(2, 188), (0, j), (0, n)] [] (q_sh0, q_rb b, mem) := by
  refine q_aload_n dX12_later_0 rfl rfl ?_
  refine qx_iconst dX12_later_1 rfl rfl ?_
  refine q_putI (ci := 12) (k := 17) (kI := 17) (ty := .int) dX12_later_2 rfl (by decide) rfl tw1200 rfl rfl rfl (fun _ => ⟨rfl, rfl⟩) qs188 ?_
  refine q_aload_n dX12_later_5 rfl rfl ?_
  refine q_iload_n dX12_later_6 rfl rfl ?_
  refine qx_invV (ci := 12) [(0, j)] [(0, j), (2, 188)] rfl qM_X12_isJar dX12_later_7 tw1433 rfl qs188 rfl rfl rfl rfl (spX12_isJar (by first | exact (o1) | (simp only [q_up, Int.reduceEq, false_and, true_and, and_true, and_false, ite_false, ite_true, if_true, if_false]; exact (o1)))) (fun r1 m1 p1 q1 => ?_)
  obtain ⟨p1e, ⟨p1f, p1⟩ | ⟨p1f, p1⟩⟩ := p1
  · rw [p1e, p1f]
    simp only [q_up, Int.reduceEq, false_and, true_and, and_true, and_false, ite_false, ite_true, if_true, if_false] at p1
    refine qx_if_eq (tgt := 29) dX12_later_10 (by decide) (fun z => absurd z (by decide)) (fun _ => ?_)
    refine q_iload_n dX12_later_13 rfl rfl ?_
    refine qx_invS [(0, n)] [(0, n)] rfl qM_X12_isAhead dX12_later_14 tw1502 rfl rfl rfl rfl (spX12_isAhead) (fun r2 m2 p2 q2 => ?_)
    obtain ⟨p2e, ⟨p2f, p2⟩ | ⟨p2f, p2⟩⟩ := p2
    · rw [p2e, p2f]
      refine qx_if_eq (tgt := 29) dX12_later_17 (by decide) (fun z => absurd z (by decide)) (fun _ => ?_)
      refine q_aload_n dX12_later_20 rfl rfl ?_
      refine q_iload_n dX12_later_21 rfl rfl ?_
      refine q_iload_n dX12_later_22 rfl rfl ?_
      refine qx_invV (ci := 12) [(0, j), (0, n)] [(0, n), (0, j), (2, 188)] rfl qM_X12_levelIn dX12_later_23 tw1579 rfl qs188 rfl rfl rfl rfl (l2 p1 p2) (fun r3 m3 p3 q3 => ?_)
      refine q_goto (tgt := 30) dX12_later_26 (by decide) ?_
      exact q_iret dX12_later_30 (qK_i (l3 p1 p2 r3 m3 p3 q3))
    · rw [p2e, p2f]
      refine qx_if_eq (tgt := 29) dX12_later_17 (by decide) (fun _ => ?_) (fun z => absurd z (by decide))
      refine qx_iconst dX12_later_29 rfl rfl ?_
      exact q_iret dX12_later_30 (qK_i (l4 p1 p2))
  · rw [p1e, p1f]
    simp only [q_up, Int.reduceEq, false_and, true_and, and_true, and_false, ite_false, ite_true, if_true, if_false] at p1
    refine qx_if_eq (tgt := 29) dX12_later_10 (by decide) (fun _ => ?_) (fun z => absurd z (by decide))
    refine qx_iconst dX12_later_29 rfl rfl ?_
    exact q_iret dX12_later_30 (qK_i (l5 p1))
theorem dX11_flood_0 : decode cX11_flood 0 = .ok (.aload_n 0, 1) := by decide +kernel
theorem dX11_flood_1 : decode cX11_flood 1 = .ok (.iload_n 1, 1) := by decide +kernel
theorem dX11_flood_2 : decode cX11_flood 2 = .ok (.invokevirtual 131, 3) := by decide +kernel
theorem dX11_flood_5 : decode cX11_flood 5 = .ok (.ifCond .eq 10, 3) := by decide +kernel
theorem dX11_flood_8 : decode cX11_flood 8 = .ok (.iload_n 2, 1) := by decide +kernel
theorem dX11_flood_9 : decode cX11_flood 9 = .ok (.invokestatic 214, 3) := by decide +kernel
theorem dX11_flood_12 : decode cX11_flood 12 = .ok (.ifCond .ne 5, 3) := by decide +kernel
theorem dX11_flood_15 : decode cX11_flood 15 = .ok (.iconst (-1), 1) := by decide +kernel
theorem dX11_flood_16 : decode cX11_flood 16 = .ok (.ireturn, 1) := by decide +kernel
theorem dX11_flood_17 : decode cX11_flood 17 = .ok (.aload_n 0, 1) := by decide +kernel
theorem dX11_flood_18 : decode cX11_flood 18 = .ok (.getfield 38, 3) := by decide +kernel
theorem dX11_flood_21 : decode cX11_flood 21 = .ok (.aload_n 0, 1) := by decide +kernel
theorem dX11_flood_22 : decode cX11_flood 22 = .ok (.getfield 19, 3) := by decide +kernel
theorem dX11_flood_25 : decode cX11_flood 25 = .ok (.invokevirtual 282, 3) := by decide +kernel
theorem dX11_flood_28 : decode cX11_flood 28 = .ok (.aload_n 0, 1) := by decide +kernel
theorem dX11_flood_29 : decode cX11_flood 29 = .ok (.getfield 38, 3) := by decide +kernel
theorem dX11_flood_32 : decode cX11_flood 32 = .ok (.getfield 299, 3) := by decide +kernel
theorem dX11_flood_35 : decode cX11_flood 35 = .ok (.iload_n 1, 1) := by decide +kernel
theorem dX11_flood_36 : decode cX11_flood 36 = .ok (.iaload, 1) := by decide +kernel
theorem dX11_flood_37 : decode cX11_flood 37 = .ok (.istore_n 3, 1) := by decide +kernel
theorem dX11_flood_38 : decode cX11_flood 38 = .ok (.iconst 0, 1) := by decide +kernel
theorem dX11_flood_39 : decode cX11_flood 39 = .ok (.istore 4, 2) := by decide +kernel
theorem dX11_flood_41 : decode cX11_flood 41 = .ok (.iconst 1, 1) := by decide +kernel
theorem dX11_flood_42 : decode cX11_flood 42 = .ok (.istore 5, 2) := by decide +kernel
theorem dX11_flood_44 : decode cX11_flood 44 = .ok (.iload 5, 2) := by decide +kernel
theorem dX11_flood_46 : decode cX11_flood 46 = .ok (.iload_n 2, 1) := by decide +kernel
theorem dX11_flood_47 : decode cX11_flood 47 = .ok (.if_icmp .gt 43, 3) := by decide +kernel
theorem dX11_flood_50 : decode cX11_flood 50 = .ok (.aload_n 0, 1) := by decide +kernel
theorem dX11_flood_51 : decode cX11_flood 51 = .ok (.getfield 38, 3) := by decide +kernel
theorem dX11_flood_54 : decode cX11_flood 54 = .ok (.invokevirtual 292, 3) := by decide +kernel
theorem dX11_flood_57 : decode cX11_flood 57 = .ok (.aload_n 0, 1) := by decide +kernel
theorem dX11_flood_58 : decode cX11_flood 58 = .ok (.getfield 38, 3) := by decide +kernel
theorem dX11_flood_61 : decode cX11_flood 61 = .ok (.getfield 299, 3) := by decide +kernel
theorem dX11_flood_64 : decode cX11_flood 64 = .ok (.iload_n 1, 1) := by decide +kernel
theorem dX11_flood_65 : decode cX11_flood 65 = .ok (.iaload, 1) := by decide +kernel
theorem dX11_flood_66 : decode cX11_flood 66 = .ok (.iload_n 3, 1) := by decide +kernel
theorem dX11_flood_67 : decode cX11_flood 67 = .ok (.if_icmp .le 17, 3) := by decide +kernel
theorem dX11_flood_70 : decode cX11_flood 70 = .ok (.aload_n 0, 1) := by decide +kernel
theorem dX11_flood_71 : decode cX11_flood 71 = .ok (.getfield 38, 3) := by decide +kernel
theorem dX11_flood_74 : decode cX11_flood 74 = .ok (.getfield 299, 3) := by decide +kernel
theorem dX11_flood_77 : decode cX11_flood 77 = .ok (.iload_n 1, 1) := by decide +kernel
theorem dX11_flood_78 : decode cX11_flood 78 = .ok (.iaload, 1) := by decide +kernel
theorem dX11_flood_79 : decode cX11_flood 79 = .ok (.istore_n 3, 1) := by decide +kernel
theorem dX11_flood_80 : decode cX11_flood 80 = .ok (.iload 5, 2) := by decide +kernel
theorem dX11_flood_82 : decode cX11_flood 82 = .ok (.istore 4, 2) := by decide +kernel
theorem dX11_flood_84 : decode cX11_flood 84 = .ok (.iinc 5 1, 3) := by decide +kernel
theorem dX11_flood_87 : decode cX11_flood 87 = .ok (.goto (-43), 3) := by decide +kernel
theorem dX11_flood_90 : decode cX11_flood 90 = .ok (.aload_n 0, 1) := by decide +kernel
theorem dX11_flood_91 : decode cX11_flood 91 = .ok (.invokevirtual 223, 3) := by decide +kernel
theorem dX11_flood_94 : decode cX11_flood 94 = .ok (.aload_n 0, 1) := by decide +kernel
theorem dX11_flood_95 : decode cX11_flood 95 = .ok (.iload 4, 2) := by decide +kernel
theorem dX11_flood_97 : decode cX11_flood 97 = .ok (.invokevirtual 229, 3) := by decide +kernel
theorem dX11_flood_100 : decode cX11_flood 100 = .ok (.iload_n 3, 1) := by decide +kernel
theorem dX11_flood_101 : decode cX11_flood 101 = .ok (.ireturn, 1) := by decide +kernel
theorem bkX11_flood_0 {b : Int} {mem : qm} {Q : Int → qm → Prop}
    {j n : Int}
    {P3 : Int → qm → Prop}
    (l1 : (0 ≤ j ∧ j < (mem 1 3)) → (0 ≤ n ∧ n ≤ 200) → q_Ev yX1_start cX1_start 2 none 2 0 0 [(2, 26), (2, 5)] (q_sh0, q_rb b, mem) (qK (q_rb b) (P3)))
    (o2 : (0 ≤ j ∧ j < (mem 1 3)) → (0 ≤ n ∧ n ≤ 200) → ∀ (r3 : Int), ∀ (m3 : qm), P3 r3 m3 → q_in32 r3 → (0 ≤ j ∧ j < 9))
    (l3 : (0 ≤ j ∧ j < (mem 1 3)) → (0 ≤ n ∧ n ≤ 200) → ∀ (r3 : Int), ∀ (m3 : qm), P3 r3 m3 → q_in32 r3 → q_At yX11_flood cX11_flood 6 (some .int) 3 0 0 (qK (q_rb b) Q) 44 [(2, 0), (0, j), (0, n), (0, (m3 27 j)), (0, 0), (0, 1)] [] (q_sh0, q_rb b, m3))
    (l4 : (0 ≤ j ∧ j < (mem 1 3)) → ¬ (0 ≤ n ∧ n ≤ 200) → Q (-1) mem)
    (l5 : ¬ (0 ≤ j ∧ j < (mem 1 3)) → Q (-1) mem) :
    q_At yX11_flood cX11_flood 6 (some .int) 3 0 0 (qK (q_rb b) Q) 0 [(2, 0), (0, j), (0, n), (4, 0), (4, 0), (4, 0)] [] (q_sh0, q_rb b, mem) := by
  refine q_aload_n dX11_flood_0 rfl rfl ?_
  refine q_iload_n dX11_flood_1 rfl rfl ?_
  refine qx_invV (ci := 11) [(0, j)] [(0, j), (2, 0)] rfl qM_X11_isJar dX11_flood_2 tw576 rfl qs0 rfl rfl rfl rfl (spX11_isJar) (fun r1 m1 p1 q1 => ?_)
  obtain ⟨p1e, ⟨p1f, p1⟩ | ⟨p1f, p1⟩⟩ := p1
  · rw [p1e, p1f]
    refine qx_if_eq (tgt := 15) dX11_flood_5 (by decide) (fun z => absurd z (by decide)) (fun _ => ?_)
    refine q_iload_n dX11_flood_8 rfl rfl ?_
    refine qx_invS [(0, n)] [(0, n)] rfl qM_X11_isSpan dX11_flood_9 tw668 rfl rfl rfl rfl (spX11_isSpan) (fun r2 m2 p2 q2 => ?_)
    obtain ⟨p2e, ⟨p2f, p2⟩ | ⟨p2f, p2⟩⟩ := p2
    · rw [p2e, p2f]
      refine qx_if_ne (tgt := 17) dX11_flood_12 (by decide) (fun _ => ?_) (fun z => absurd z (by decide))
      refine q_aload_n dX11_flood_17 rfl rfl ?_
      refine q_getR (ci := 11) (k := 4) dX11_flood_18 rfl (by decide) rfl tw353 (by decide) qs0 qw0_4 (by decide) ?_
      refine q_aload_n dX11_flood_21 rfl rfl ?_
      refine q_getR (ci := 11) (k := 1) dX11_flood_22 rfl (by decide) rfl tw350 (by decide) qs0 qw0_1 (by decide) ?_
      refine qx_invV (ci := 1) [(2, 5)] [(2, 5), (2, 26)] rfl qM_X1_start dX11_flood_25 tw767 rfl qs26 rfl rfl rfl rfl (l1 p1 p2) (fun r3 m3 p3 q3 => ?_)
      refine q_aload_n dX11_flood_28 rfl rfl ?_
      refine q_getR (ci := 11) (k := 4) dX11_flood_29 rfl (by decide) rfl tw353 (by decide) qs0 qw0_4 (by decide) ?_
      refine q_getR (ci := 1) (k := 1) dX11_flood_32 rfl (by decide) rfl tw153 (by decide) qs26 qw26_1 (by decide) ?_
      refine q_iload_n dX11_flood_35 rfl rfl ?_
      refine qx_iald (v := (m3 27 j)) dX11_flood_36 qs27 (o2 p1 p2 r3 m3 p3 q3) rfl ?_
      refine qx_istore_n (L' := [(2, 0), (0, j), (0, n), (0, (m3 27 j)), (4, 0), (4, 0)]) dX11_flood_37 rfl rfl rfl rfl ?_
      refine qx_iconst dX11_flood_38 rfl rfl ?_
      refine qx_istore (L' := [(2, 0), (0, j), (0, n), (0, (m3 27 j)), (0, 0), (4, 0)]) dX11_flood_39 rfl rfl rfl ?_
      refine qx_iconst dX11_flood_41 rfl rfl ?_
      refine qx_istore (L' := [(2, 0), (0, j), (0, n), (0, (m3 27 j)), (0, 0), (0, 1)]) dX11_flood_42 rfl rfl rfl ?_
      exact l3 p1 p2 r3 m3 p3 q3
    · rw [p2e, p2f]
      refine qx_if_ne (tgt := 17) dX11_flood_12 (by decide) (fun z => absurd z (by decide)) (fun _ => ?_)
      refine qx_iconst dX11_flood_15 rfl rfl ?_
      exact q_iret dX11_flood_16 (qK_i (l4 p1 p2))
  · rw [p1e, p1f]
    refine qx_if_eq (tgt := 15) dX11_flood_5 (by decide) (fun _ => ?_) (fun z => absurd z (by decide))
    refine qx_iconst dX11_flood_15 rfl rfl ?_
    exact q_iret dX11_flood_16 (qK_i (l5 p1))
theorem bkX11_flood_44 {b : Int} {mem : qm} {Q : Int → qm → Prop}
    {j n v3 v4 v5 : Int}
    (o1 : n < v5 → (0 ≤ (0 : Int) ∧ (0 : Int) < 10))
    (l2 : n < v5 → Q v3 (q_up (q_up (q_up mem 0 16 0) 169 (0 : Int) v4) 0 16 ((0 : Int) + 1)))
    {P4 : Int → qm → Prop}
    (l3 : v5 ≤ n → q_Ev yX1_strike cX1_strike 4 none 2 0 0 [(2, 26)] (q_sh0, q_rb b, mem) (qK (q_rb b) (P4)))
    (o4 : v5 ≤ n → ∀ (r4 : Int), ∀ (m4 : qm), P4 r4 m4 → q_in32 r4 → (0 ≤ j ∧ j < 9))
    (o5 : v5 ≤ n → ∀ (r4 : Int), ∀ (m4 : qm), P4 r4 m4 → q_in32 r4 → (m4 27 j) ≤ v3 → q_in32 (v5 + 1))
    (l6 : v5 ≤ n → ∀ (r4 : Int), ∀ (m4 : qm), P4 r4 m4 → q_in32 r4 → (m4 27 j) ≤ v3 → q_At yX11_flood cX11_flood 6 (some .int) 3 0 0 (qK (q_rb b) Q) 44 [(2, 0), (0, j), (0, n), (0, v3), (0, v4), (0, (v5 + 1))] [] (q_sh0, q_rb b, m4))
    (o7 : v5 ≤ n → ∀ (r4 : Int), ∀ (m4 : qm), P4 r4 m4 → q_in32 r4 → v3 < (m4 27 j) → q_in32 (v5 + 1))
    (l8 : v5 ≤ n → ∀ (r4 : Int), ∀ (m4 : qm), P4 r4 m4 → q_in32 r4 → v3 < (m4 27 j) → q_At yX11_flood cX11_flood 6 (some .int) 3 0 0 (qK (q_rb b) Q) 44 [(2, 0), (0, j), (0, n), (0, (m4 27 j)), (0, v5), (0, (v5 + 1))] [] (q_sh0, q_rb b, m4)) :
    q_At yX11_flood cX11_flood 6 (some .int) 3 0 0 (qK (q_rb b) Q) 44 [(2, 0), (0, j), (0, n), (0, v3), (0, v4), (0, v5)] [] (q_sh0, q_rb b, mem) := by
  refine q_iload dX11_flood_44 rfl ?_
  refine q_iload_n dX11_flood_46 rfl rfl ?_
  refine qx_icmp_gt (tgt := 90) dX11_flood_47 (by decide) (fun c1 => ?_) (fun c1 => ?_)
  · skip
    refine q_aload_n dX11_flood_90 rfl rfl ?_
    refine qx_invV (ci := 11) [] [(2, 0)] rfl qM_X11_clearRow dX11_flood_91 tw691 rfl qs0 rfl rfl rfl rfl (spX11_clearRow) (fun r2 m2 p2 q2 => ?_)
    obtain rfl := p2
    refine q_aload_n dX11_flood_94 rfl rfl ?_
    refine q_iload dX11_flood_95 rfl ?_
    refine qx_invV (ci := 11) [(0, v4)] [(0, v4), (2, 0)] rfl qM_X11_tell dX11_flood_97 tw699 rfl qs0 rfl rfl rfl rfl (spX11_tell (by first | exact (o1 c1) | (simp only [q_up, Int.reduceEq, false_and, true_and, and_true, and_false, ite_false, ite_true, if_true, if_false]; exact (o1 c1)))) (fun r3 m3 p3 q3 => ?_)
    obtain rfl := p3
    refine q_iload_n dX11_flood_100 rfl rfl ?_
    exact q_iret dX11_flood_101 (qK_i (l2 c1))
  · skip
    refine q_aload_n dX11_flood_50 rfl rfl ?_
    refine q_getR (ci := 11) (k := 4) dX11_flood_51 rfl (by decide) rfl tw353 (by decide) qs0 qw0_4 (by decide) ?_
    refine qx_invV (ci := 1) [] [(2, 26)] rfl qM_X1_strike dX11_flood_54 tw783 rfl qs26 rfl rfl rfl rfl (l3 c1) (fun r4 m4 p4 q4 => ?_)
    refine q_aload_n dX11_flood_57 rfl rfl ?_
    refine q_getR (ci := 11) (k := 4) dX11_flood_58 rfl (by decide) rfl tw353 (by decide) qs0 qw0_4 (by decide) ?_
    refine q_getR (ci := 1) (k := 1) dX11_flood_61 rfl (by decide) rfl tw153 (by decide) qs26 qw26_1 (by decide) ?_
    refine q_iload_n dX11_flood_64 rfl rfl ?_
    refine qx_iald (v := (m4 27 j)) dX11_flood_65 qs27 (o4 c1 r4 m4 p4 q4) rfl ?_
    refine q_iload_n dX11_flood_66 rfl rfl ?_
    refine qx_icmp_le (tgt := 84) dX11_flood_67 (by decide) (fun c5 => ?_) (fun c5 => ?_)
    · skip
      refine qx_iinc (L' := [(2, 0), (0, j), (0, n), (0, v3), (0, v4), (0, (v5 + 1))]) dX11_flood_84 rfl rfl rfl (o5 c1 r4 m4 p4 q4 c5) rfl ?_
      refine q_goto (tgt := 44) dX11_flood_87 (by decide) ?_
      exact l6 c1 r4 m4 p4 q4 c5
    · skip
      refine q_aload_n dX11_flood_70 rfl rfl ?_
      refine q_getR (ci := 11) (k := 4) dX11_flood_71 rfl (by decide) rfl tw353 (by decide) qs0 qw0_4 (by decide) ?_
      refine q_getR (ci := 1) (k := 1) dX11_flood_74 rfl (by decide) rfl tw153 (by decide) qs26 qw26_1 (by decide) ?_
      refine q_iload_n dX11_flood_77 rfl rfl ?_
      refine qx_iald (v := (m4 27 j)) dX11_flood_78 qs27 (o4 c1 r4 m4 p4 q4) rfl ?_
      refine qx_istore_n (L' := [(2, 0), (0, j), (0, n), (0, (m4 27 j)), (0, v4), (0, v5)]) dX11_flood_79 rfl rfl rfl rfl ?_
      refine q_iload dX11_flood_80 rfl ?_
      refine qx_istore (L' := [(2, 0), (0, j), (0, n), (0, (m4 27 j)), (0, v5), (0, v5)]) dX11_flood_82 rfl rfl rfl ?_
      refine qx_iinc (L' := [(2, 0), (0, j), (0, n), (0, (m4 27 j)), (0, v5), (0, (v5 + 1))]) dX11_flood_84 rfl rfl rfl (o7 c1 r4 m4 p4 q4 c5) rfl ?_
      refine q_goto (tgt := 44) dX11_flood_87 (by decide) ?_
      exact l8 c1 r4 m4 p4 q4 c5
theorem dX12_flood_0 : decode cX12_flood 0 = .ok (.aload_n 0, 1) := by decide +kernel
theorem dX12_flood_1 : decode cX12_flood 1 = .ok (.iconst 0, 1) := by decide +kernel
theorem dX12_flood_2 : decode cX12_flood 2 = .ok (.putfield 128, 3) := by decide +kernel
theorem dX12_flood_5 : decode cX12_flood 5 = .ok (.aload_n 0, 1) := by decide +kernel
theorem dX12_flood_6 : decode cX12_flood 6 = .ok (.iload_n 1, 1) := by decide +kernel
theorem dX12_flood_7 : decode cX12_flood 7 = .ok (.invokevirtual 225, 3) := by decide +kernel
theorem dX12_flood_10 : decode cX12_flood 10 = .ok (.ifCond .eq 10, 3) := by decide +kernel
theorem dX12_flood_13 : decode cX12_flood 13 = .ok (.iload_n 2, 1) := by decide +kernel
theorem dX12_flood_14 : decode cX12_flood 14 = .ok (.invokestatic 270, 3) := by decide +kernel
theorem dX12_flood_17 : decode cX12_flood 17 = .ok (.ifCond .ne 5, 3) := by decide +kernel
theorem dX12_flood_20 : decode cX12_flood 20 = .ok (.iconst (-1), 1) := by decide +kernel
theorem dX12_flood_21 : decode cX12_flood 21 = .ok (.ireturn, 1) := by decide +kernel
theorem dX12_flood_22 : decode cX12_flood 22 = .ok (.aload_n 0, 1) := by decide +kernel
theorem dX12_flood_23 : decode cX12_flood 23 = .ok (.invokevirtual 312, 3) := by decide +kernel
theorem dX12_flood_26 : decode cX12_flood 26 = .ok (.aload_n 0, 1) := by decide +kernel
theorem dX12_flood_27 : decode cX12_flood 27 = .ok (.getfield 72, 3) := by decide +kernel
theorem dX12_flood_30 : decode cX12_flood 30 = .ok (.iload_n 1, 1) := by decide +kernel
theorem dX12_flood_31 : decode cX12_flood 31 = .ok (.iaload, 1) := by decide +kernel
theorem dX12_flood_32 : decode cX12_flood 32 = .ok (.istore_n 3, 1) := by decide +kernel
theorem dX12_flood_33 : decode cX12_flood 33 = .ok (.iconst 0, 1) := by decide +kernel
theorem dX12_flood_34 : decode cX12_flood 34 = .ok (.istore 4, 2) := by decide +kernel
theorem dX12_flood_36 : decode cX12_flood 36 = .ok (.iconst 1, 1) := by decide +kernel
theorem dX12_flood_37 : decode cX12_flood 37 = .ok (.istore 5, 2) := by decide +kernel
theorem dX12_flood_39 : decode cX12_flood 39 = .ok (.iload 5, 2) := by decide +kernel
theorem dX12_flood_41 : decode cX12_flood 41 = .ok (.iload_n 2, 1) := by decide +kernel
theorem dX12_flood_42 : decode cX12_flood 42 = .ok (.if_icmp .gt 38, 3) := by decide +kernel
theorem dX12_flood_45 : decode cX12_flood 45 = .ok (.aload_n 0, 1) := by decide +kernel
theorem dX12_flood_46 : decode cX12_flood 46 = .ok (.invokevirtual 309, 3) := by decide +kernel
theorem dX12_flood_49 : decode cX12_flood 49 = .ok (.pop, 1) := by decide +kernel
theorem dX12_flood_50 : decode cX12_flood 50 = .ok (.aload_n 0, 1) := by decide +kernel
theorem dX12_flood_51 : decode cX12_flood 51 = .ok (.getfield 72, 3) := by decide +kernel
theorem dX12_flood_54 : decode cX12_flood 54 = .ok (.iload_n 1, 1) := by decide +kernel
theorem dX12_flood_55 : decode cX12_flood 55 = .ok (.iaload, 1) := by decide +kernel
theorem dX12_flood_56 : decode cX12_flood 56 = .ok (.iload_n 3, 1) := by decide +kernel
theorem dX12_flood_57 : decode cX12_flood 57 = .ok (.if_icmp .gt 6, 3) := by decide +kernel
theorem dX12_flood_60 : decode cX12_flood 60 = .ok (.goto 14, 3) := by decide +kernel
theorem dX12_flood_63 : decode cX12_flood 63 = .ok (.aload_n 0, 1) := by decide +kernel
theorem dX12_flood_64 : decode cX12_flood 64 = .ok (.getfield 72, 3) := by decide +kernel
theorem dX12_flood_67 : decode cX12_flood 67 = .ok (.iload_n 1, 1) := by decide +kernel
theorem dX12_flood_68 : decode cX12_flood 68 = .ok (.iaload, 1) := by decide +kernel
theorem dX12_flood_69 : decode cX12_flood 69 = .ok (.istore_n 3, 1) := by decide +kernel
theorem dX12_flood_70 : decode cX12_flood 70 = .ok (.iload 5, 2) := by decide +kernel
theorem dX12_flood_72 : decode cX12_flood 72 = .ok (.istore 4, 2) := by decide +kernel
theorem dX12_flood_74 : decode cX12_flood 74 = .ok (.iinc 5 1, 3) := by decide +kernel
theorem dX12_flood_77 : decode cX12_flood 77 = .ok (.goto (-38), 3) := by decide +kernel
theorem dX12_flood_80 : decode cX12_flood 80 = .ok (.aload_n 0, 1) := by decide +kernel
theorem dX12_flood_81 : decode cX12_flood 81 = .ok (.iconst 0, 1) := by decide +kernel
theorem dX12_flood_82 : decode cX12_flood 82 = .ok (.putfield 131, 3) := by decide +kernel
theorem dX12_flood_85 : decode cX12_flood 85 = .ok (.aload_n 0, 1) := by decide +kernel
theorem dX12_flood_86 : decode cX12_flood 86 = .ok (.iload 4, 2) := by decide +kernel
theorem dX12_flood_88 : decode cX12_flood 88 = .ok (.invokevirtual 276, 3) := by decide +kernel
theorem dX12_flood_91 : decode cX12_flood 91 = .ok (.iload_n 3, 1) := by decide +kernel
theorem dX12_flood_92 : decode cX12_flood 92 = .ok (.ireturn, 1) := by decide +kernel
theorem bkX12_flood_0 {b : Int} {mem : qm} {Q : Int → qm → Prop}
    {j n : Int}
    (o1 : q_in32 ((mem 188 0) - 1))
    {P3 : Int → qm → Prop}
    (l2 : (0 ≤ j ∧ j ≤ (mem 188 0) - 1) → (0 ≤ n ∧ n ≤ 200) → q_Ev yX12_begin_ cX12_begin_ 2 none 1 0 0 [(2, 188)] (q_sh0, q_rb b, (q_up mem 188 17 0)) (qK (q_rb b) (P3)))
    (o3 : (0 ≤ j ∧ j ≤ (mem 188 0) - 1) → (0 ≤ n ∧ n ≤ 200) → ∀ (r3 : Int), ∀ (m3 : qm), P3 r3 m3 → q_in32 r3 → (0 ≤ j ∧ j < 9))
    (l4 : (0 ≤ j ∧ j ≤ (mem 188 0) - 1) → (0 ≤ n ∧ n ≤ 200) → ∀ (r3 : Int), ∀ (m3 : qm), P3 r3 m3 → q_in32 r3 → q_At yX12_flood cX12_flood 6 (some .int) 3 0 0 (qK (q_rb b) Q) 39 [(2, 188), (0, j), (0, n), (0, (m3 207 j)), (0, 0), (0, 1)] [] (q_sh0, q_rb b, m3))
    (l5 : (0 ≤ j ∧ j ≤ (mem 188 0) - 1) → ¬ (0 ≤ n ∧ n ≤ 200) → Q (-1) (q_up mem 188 17 0))
    (l6 : ¬ (0 ≤ j ∧ j ≤ (mem 188 0) - 1) → Q (-1) (q_up mem 188 17 0)) :
    q_At yX12_flood cX12_flood 6 (some .int) 3 0 0 (qK (q_rb b) Q) 0 [(2, 188), (0, j), (0, n), (4, 0), (4, 0), (4, 0)] [] (q_sh0, q_rb b, mem) := by
  refine q_aload_n dX12_flood_0 rfl rfl ?_
  refine qx_iconst dX12_flood_1 rfl rfl ?_
  refine q_putI (ci := 12) (k := 17) (kI := 17) (ty := .int) dX12_flood_2 rfl (by decide) rfl tw1200 rfl rfl rfl (fun _ => ⟨rfl, rfl⟩) qs188 ?_
  refine q_aload_n dX12_flood_5 rfl rfl ?_
  refine q_iload_n dX12_flood_6 rfl rfl ?_
  refine qx_invV (ci := 12) [(0, j)] [(0, j), (2, 188)] rfl qM_X12_isJar dX12_flood_7 tw1433 rfl qs188 rfl rfl rfl rfl (spX12_isJar (by first | exact (o1) | (simp only [q_up, Int.reduceEq, false_and, true_and, and_true, and_false, ite_false, ite_true, if_true, if_false]; exact (o1)))) (fun r1 m1 p1 q1 => ?_)
  obtain ⟨p1e, ⟨p1f, p1⟩ | ⟨p1f, p1⟩⟩ := p1
  · rw [p1e, p1f]
    simp only [q_up, Int.reduceEq, false_and, true_and, and_true, and_false, ite_false, ite_true, if_true, if_false] at p1
    refine qx_if_eq (tgt := 20) dX12_flood_10 (by decide) (fun z => absurd z (by decide)) (fun _ => ?_)
    refine q_iload_n dX12_flood_13 rfl rfl ?_
    refine qx_invS [(0, n)] [(0, n)] rfl qM_X12_isAhead dX12_flood_14 tw1502 rfl rfl rfl rfl (spX12_isAhead) (fun r2 m2 p2 q2 => ?_)
    obtain ⟨p2e, ⟨p2f, p2⟩ | ⟨p2f, p2⟩⟩ := p2
    · rw [p2e, p2f]
      refine qx_if_ne (tgt := 22) dX12_flood_17 (by decide) (fun _ => ?_) (fun z => absurd z (by decide))
      refine q_aload_n dX12_flood_22 rfl rfl ?_
      refine qx_invV (ci := 12) [] [(2, 188)] rfl qM_X12_begin_ dX12_flood_23 tw1559 rfl qs188 rfl rfl rfl rfl (l2 p1 p2) (fun r3 m3 p3 q3 => ?_)
      refine q_aload_n dX12_flood_26 rfl rfl ?_
      refine q_getR (ci := 12) (k := 33) dX12_flood_27 rfl (by decide) rfl tw1216 (by decide) qs188 qw188_33 (by decide) ?_
      refine q_iload_n dX12_flood_30 rfl rfl ?_
      refine qx_iald (v := (m3 207 j)) dX12_flood_31 qs207 (o3 p1 p2 r3 m3 p3 q3) rfl ?_
      refine qx_istore_n (L' := [(2, 188), (0, j), (0, n), (0, (m3 207 j)), (4, 0), (4, 0)]) dX12_flood_32 rfl rfl rfl rfl ?_
      refine qx_iconst dX12_flood_33 rfl rfl ?_
      refine qx_istore (L' := [(2, 188), (0, j), (0, n), (0, (m3 207 j)), (0, 0), (4, 0)]) dX12_flood_34 rfl rfl rfl ?_
      refine qx_iconst dX12_flood_36 rfl rfl ?_
      refine qx_istore (L' := [(2, 188), (0, j), (0, n), (0, (m3 207 j)), (0, 0), (0, 1)]) dX12_flood_37 rfl rfl rfl ?_
      exact l4 p1 p2 r3 m3 p3 q3
    · rw [p2e, p2f]
      refine qx_if_ne (tgt := 22) dX12_flood_17 (by decide) (fun z => absurd z (by decide)) (fun _ => ?_)
      refine qx_iconst dX12_flood_20 rfl rfl ?_
      exact q_iret dX12_flood_21 (qK_i (l5 p1 p2))
  · rw [p1e, p1f]
    simp only [q_up, Int.reduceEq, false_and, true_and, and_true, and_false, ite_false, ite_true, if_true, if_false] at p1
    refine qx_if_eq (tgt := 20) dX12_flood_10 (by decide) (fun _ => ?_) (fun z => absurd z (by decide))
    refine qx_iconst dX12_flood_20 rfl rfl ?_
    exact q_iret dX12_flood_21 (qK_i (l6 p1))
theorem bkX12_flood_39 {b : Int} {mem : qm} {Q : Int → qm → Prop}
    {j n v3 v4 v5 : Int}
    (o1 : n < v5 → (0 ≤ (0 : Int) ∧ (0 : Int) < 16))
    (l2 : n < v5 → Q v3 (q_up (q_up (q_up mem 188 16 0) 199 (0 : Int) v4) 188 16 ((0 : Int) + 1)))
    {P3 : Int → qm → Prop}
    (l3 : v5 ≤ n → q_Ev yX12_goOn cX12_goOn 5 (some .int) 1 0 0 [(2, 188)] (q_sh0, q_rb b, mem) (qK (q_rb b) (P3)))
    (o4 : v5 ≤ n → ∀ (r3 : Int), ∀ (m3 : qm), P3 r3 m3 → q_in32 r3 → (0 ≤ j ∧ j < 9))
    (o5 : v5 ≤ n → ∀ (r3 : Int), ∀ (m3 : qm), P3 r3 m3 → q_in32 r3 → v3 < (m3 207 j) → q_in32 (v5 + 1))
    (l6 : v5 ≤ n → ∀ (r3 : Int), ∀ (m3 : qm), P3 r3 m3 → q_in32 r3 → v3 < (m3 207 j) → q_At yX12_flood cX12_flood 6 (some .int) 3 0 0 (qK (q_rb b) Q) 39 [(2, 188), (0, j), (0, n), (0, (m3 207 j)), (0, v5), (0, (v5 + 1))] [] (q_sh0, q_rb b, m3))
    (o7 : v5 ≤ n → ∀ (r3 : Int), ∀ (m3 : qm), P3 r3 m3 → q_in32 r3 → (m3 207 j) ≤ v3 → q_in32 (v5 + 1))
    (l8 : v5 ≤ n → ∀ (r3 : Int), ∀ (m3 : qm), P3 r3 m3 → q_in32 r3 → (m3 207 j) ≤ v3 → q_At yX12_flood cX12_flood 6 (some .int) 3 0 0 (qK (q_rb b) Q) 39 [(2, 188), (0, j), (0, n), (0, v3), (0, v4), (0, (v5 + 1))] [] (q_sh0, q_rb b, m3)) :
    q_At yX12_flood cX12_flood 6 (some .int) 3 0 0 (qK (q_rb b) Q) 39 [(2, 188), (0, j), (0, n), (0, v3), (0, v4), (0, v5)] [] (q_sh0, q_rb b, mem) := by
  refine q_iload dX12_flood_39 rfl ?_
  refine q_iload_n dX12_flood_41 rfl rfl ?_
  refine qx_icmp_gt (tgt := 80) dX12_flood_42 (by decide) (fun c1 => ?_) (fun c1 => ?_)
  · skip
    refine q_aload_n dX12_flood_80 rfl rfl ?_
    refine qx_iconst dX12_flood_81 rfl rfl ?_
    refine q_putI (ci := 12) (k := 16) (kI := 16) (ty := .int) dX12_flood_82 rfl (by decide) rfl tw1199 rfl rfl rfl (fun _ => ⟨rfl, rfl⟩) qs188 ?_
    refine q_aload_n dX12_flood_85 rfl rfl ?_
    refine q_iload dX12_flood_86 rfl ?_
    refine qx_invV (ci := 12) [(0, v4)] [(0, v4), (2, 188)] rfl qM_X12_tell dX12_flood_88 tw1509 rfl qs188 rfl rfl rfl rfl (spX12_tell (by first | exact (o1 c1) | (simp only [q_up, Int.reduceEq, false_and, true_and, and_true, and_false, ite_false, ite_true, if_true, if_false]; exact (o1 c1)))) (fun r2 m2 p2 q2 => ?_)
    obtain rfl := p2
    refine q_iload_n dX12_flood_91 rfl rfl ?_
    exact q_iret dX12_flood_92 (qK_i (l2 c1))
  · skip
    refine q_aload_n dX12_flood_45 rfl rfl ?_
    refine qx_invV (ci := 12) [] [(2, 188)] rfl qM_X12_goOn dX12_flood_46 tw1567 rfl qs188 rfl rfl rfl rfl (l3 c1) (fun r3 m3 p3 q3 => ?_)
    refine q_pop dX12_flood_49 (fun h => by cases h) ?_
    refine q_aload_n dX12_flood_50 rfl rfl ?_
    refine q_getR (ci := 12) (k := 33) dX12_flood_51 rfl (by decide) rfl tw1216 (by decide) qs188 qw188_33 (by decide) ?_
    refine q_iload_n dX12_flood_54 rfl rfl ?_
    refine qx_iald (v := (m3 207 j)) dX12_flood_55 qs207 (o4 c1 r3 m3 p3 q3) rfl ?_
    refine q_iload_n dX12_flood_56 rfl rfl ?_
    refine qx_icmp_gt (tgt := 63) dX12_flood_57 (by decide) (fun c4 => ?_) (fun c4 => ?_)
    · skip
      refine q_aload_n dX12_flood_63 rfl rfl ?_
      refine q_getR (ci := 12) (k := 33) dX12_flood_64 rfl (by decide) rfl tw1216 (by decide) qs188 qw188_33 (by decide) ?_
      refine q_iload_n dX12_flood_67 rfl rfl ?_
      refine qx_iald (v := (m3 207 j)) dX12_flood_68 qs207 (o4 c1 r3 m3 p3 q3) rfl ?_
      refine qx_istore_n (L' := [(2, 188), (0, j), (0, n), (0, (m3 207 j)), (0, v4), (0, v5)]) dX12_flood_69 rfl rfl rfl rfl ?_
      refine q_iload dX12_flood_70 rfl ?_
      refine qx_istore (L' := [(2, 188), (0, j), (0, n), (0, (m3 207 j)), (0, v5), (0, v5)]) dX12_flood_72 rfl rfl rfl ?_
      refine qx_iinc (L' := [(2, 188), (0, j), (0, n), (0, (m3 207 j)), (0, v5), (0, (v5 + 1))]) dX12_flood_74 rfl rfl rfl (o5 c1 r3 m3 p3 q3 c4) rfl ?_
      refine q_goto (tgt := 39) dX12_flood_77 (by decide) ?_
      exact l6 c1 r3 m3 p3 q3 c4
    · skip
      refine q_goto (tgt := 74) dX12_flood_60 (by decide) ?_
      refine qx_iinc (L' := [(2, 188), (0, j), (0, n), (0, v3), (0, v4), (0, (v5 + 1))]) dX12_flood_74 rfl rfl rfl (o7 c1 r3 m3 p3 q3 c4) rfl ?_
      refine q_goto (tgt := 39) dX12_flood_77 (by decide) ?_
      exact l8 c1 r3 m3 p3 q3 c4
theorem dX11_dry_0 : decode cX11_dry 0 = .ok (.aload_n 0, 1) := by decide +kernel
theorem dX11_dry_1 : decode cX11_dry 1 = .ok (.iload_n 1, 1) := by decide +kernel
theorem dX11_dry_2 : decode cX11_dry 2 = .ok (.invokevirtual 131, 3) := by decide +kernel
theorem dX11_dry_5 : decode cX11_dry 5 = .ok (.ifCond .ne 5, 3) := by decide +kernel
theorem dX11_dry_8 : decode cX11_dry 8 = .ok (.iconst (-1), 1) := by decide +kernel
theorem dX11_dry_9 : decode cX11_dry 9 = .ok (.ireturn, 1) := by decide +kernel
theorem dX11_dry_10 : decode cX11_dry 10 = .ok (.aload_n 0, 1) := by decide +kernel
theorem dX11_dry_11 : decode cX11_dry 11 = .ok (.getfield 38, 3) := by decide +kernel
theorem dX11_dry_14 : decode cX11_dry 14 = .ok (.aload_n 0, 1) := by decide +kernel
theorem dX11_dry_15 : decode cX11_dry 15 = .ok (.getfield 19, 3) := by decide +kernel
theorem dX11_dry_18 : decode cX11_dry 18 = .ok (.invokevirtual 282, 3) := by decide +kernel
theorem dX11_dry_21 : decode cX11_dry 21 = .ok (.iconst 0, 1) := by decide +kernel
theorem dX11_dry_22 : decode cX11_dry 22 = .ok (.istore_n 2, 1) := by decide +kernel
theorem dX11_dry_23 : decode cX11_dry 23 = .ok (.iload_n 2, 1) := by decide +kernel
theorem dX11_dry_24 : decode cX11_dry 24 = .ok (.sipush 200, 3) := by decide +kernel
theorem dX11_dry_27 : decode cX11_dry 27 = .ok (.if_icmp .gt 30, 3) := by decide +kernel
theorem dX11_dry_30 : decode cX11_dry 30 = .ok (.aload_n 0, 1) := by decide +kernel
theorem dX11_dry_31 : decode cX11_dry 31 = .ok (.getfield 38, 3) := by decide +kernel
theorem dX11_dry_34 : decode cX11_dry 34 = .ok (.getfield 299, 3) := by decide +kernel
theorem dX11_dry_37 : decode cX11_dry 37 = .ok (.iload_n 1, 1) := by decide +kernel
theorem dX11_dry_38 : decode cX11_dry 38 = .ok (.iaload, 1) := by decide +kernel
theorem dX11_dry_39 : decode cX11_dry 39 = .ok (.ifCond .ne 5, 3) := by decide +kernel
theorem dX11_dry_42 : decode cX11_dry 42 = .ok (.iload_n 2, 1) := by decide +kernel
theorem dX11_dry_43 : decode cX11_dry 43 = .ok (.ireturn, 1) := by decide +kernel
theorem dX11_dry_44 : decode cX11_dry 44 = .ok (.aload_n 0, 1) := by decide +kernel
theorem dX11_dry_45 : decode cX11_dry 45 = .ok (.getfield 38, 3) := by decide +kernel
theorem dX11_dry_48 : decode cX11_dry 48 = .ok (.invokevirtual 292, 3) := by decide +kernel
theorem dX11_dry_51 : decode cX11_dry 51 = .ok (.iinc 2 1, 3) := by decide +kernel
theorem dX11_dry_54 : decode cX11_dry 54 = .ok (.goto (-31), 3) := by decide +kernel
theorem dX11_dry_57 : decode cX11_dry 57 = .ok (.bipush (-2), 2) := by decide +kernel
theorem dX11_dry_59 : decode cX11_dry 59 = .ok (.ireturn, 1) := by decide +kernel
theorem bkX11_dry_0 {b : Int} {mem : qm} {Q : Int → qm → Prop}
    {j : Int}
    {P2 : Int → qm → Prop}
    (l1 : (0 ≤ j ∧ j < (mem 1 3)) → q_Ev yX1_start cX1_start 2 none 2 0 0 [(2, 26), (2, 5)] (q_sh0, q_rb b, mem) (qK (q_rb b) (P2)))
    (l2 : (0 ≤ j ∧ j < (mem 1 3)) → ∀ (r2 : Int), ∀ (m2 : qm), P2 r2 m2 → q_in32 r2 → q_At yX11_dry cX11_dry 3 (some .int) 3 0 0 (qK (q_rb b) Q) 23 [(2, 0), (0, j), (0, 0)] [] (q_sh0, q_rb b, m2))
    (l3 : ¬ (0 ≤ j ∧ j < (mem 1 3)) → Q (-1) mem) :
    q_At yX11_dry cX11_dry 3 (some .int) 3 0 0 (qK (q_rb b) Q) 0 [(2, 0), (0, j), (4, 0)] [] (q_sh0, q_rb b, mem) := by
  refine q_aload_n dX11_dry_0 rfl rfl ?_
  refine q_iload_n dX11_dry_1 rfl rfl ?_
  refine qx_invV (ci := 11) [(0, j)] [(0, j), (2, 0)] rfl qM_X11_isJar dX11_dry_2 tw576 rfl qs0 rfl rfl rfl rfl (spX11_isJar) (fun r1 m1 p1 q1 => ?_)
  obtain ⟨p1e, ⟨p1f, p1⟩ | ⟨p1f, p1⟩⟩ := p1
  · rw [p1e, p1f]
    refine qx_if_ne (tgt := 10) dX11_dry_5 (by decide) (fun _ => ?_) (fun z => absurd z (by decide))
    refine q_aload_n dX11_dry_10 rfl rfl ?_
    refine q_getR (ci := 11) (k := 4) dX11_dry_11 rfl (by decide) rfl tw353 (by decide) qs0 qw0_4 (by decide) ?_
    refine q_aload_n dX11_dry_14 rfl rfl ?_
    refine q_getR (ci := 11) (k := 1) dX11_dry_15 rfl (by decide) rfl tw350 (by decide) qs0 qw0_1 (by decide) ?_
    refine qx_invV (ci := 1) [(2, 5)] [(2, 5), (2, 26)] rfl qM_X1_start dX11_dry_18 tw767 rfl qs26 rfl rfl rfl rfl (l1 p1) (fun r2 m2 p2 q2 => ?_)
    refine qx_iconst dX11_dry_21 rfl rfl ?_
    refine qx_istore_n (L' := [(2, 0), (0, j), (0, 0)]) dX11_dry_22 rfl rfl rfl rfl ?_
    exact l2 p1 r2 m2 p2 q2
  · rw [p1e, p1f]
    refine qx_if_ne (tgt := 10) dX11_dry_5 (by decide) (fun z => absurd z (by decide)) (fun _ => ?_)
    refine qx_iconst dX11_dry_8 rfl rfl ?_
    exact q_iret dX11_dry_9 (qK_i (l3 p1))
theorem bkX11_dry_23 {b : Int} {mem : qm} {Q : Int → qm → Prop}
    {j v2 : Int}
    (l1 : 200 < v2 → Q (-2) mem)
    (o2 : v2 ≤ 200 → (0 ≤ j ∧ j < 9))
    {P3 : Int → qm → Prop}
    (l3 : v2 ≤ 200 → (mem 27 j) ≠ 0 → q_Ev yX1_strike cX1_strike 4 none 2 0 0 [(2, 26)] (q_sh0, q_rb b, mem) (qK (q_rb b) (P3)))
    (o4 : v2 ≤ 200 → (mem 27 j) ≠ 0 → ∀ (r3 : Int), ∀ (m3 : qm), P3 r3 m3 → q_in32 r3 → q_in32 (v2 + 1))
    (l5 : v2 ≤ 200 → (mem 27 j) ≠ 0 → ∀ (r3 : Int), ∀ (m3 : qm), P3 r3 m3 → q_in32 r3 → q_At yX11_dry cX11_dry 3 (some .int) 3 0 0 (qK (q_rb b) Q) 23 [(2, 0), (0, j), (0, (v2 + 1))] [] (q_sh0, q_rb b, m3))
    (l6 : v2 ≤ 200 → (mem 27 j) = 0 → Q v2 mem) :
    q_At yX11_dry cX11_dry 3 (some .int) 3 0 0 (qK (q_rb b) Q) 23 [(2, 0), (0, j), (0, v2)] [] (q_sh0, q_rb b, mem) := by
  refine q_iload_n dX11_dry_23 rfl rfl ?_
  refine qx_sipush dX11_dry_24 rfl rfl ?_
  refine qx_icmp_gt (tgt := 57) dX11_dry_27 (by decide) (fun c1 => ?_) (fun c1 => ?_)
  · skip
    refine qx_bipush dX11_dry_57 rfl rfl ?_
    exact q_iret dX11_dry_59 (qK_i (l1 c1))
  · skip
    refine q_aload_n dX11_dry_30 rfl rfl ?_
    refine q_getR (ci := 11) (k := 4) dX11_dry_31 rfl (by decide) rfl tw353 (by decide) qs0 qw0_4 (by decide) ?_
    refine q_getR (ci := 1) (k := 1) dX11_dry_34 rfl (by decide) rfl tw153 (by decide) qs26 qw26_1 (by decide) ?_
    refine q_iload_n dX11_dry_37 rfl rfl ?_
    refine qx_iald (v := (mem 27 j)) dX11_dry_38 qs27 (o2 c1) rfl ?_
    refine qx_if_ne (tgt := 44) dX11_dry_39 (by decide) (fun c2 => ?_) (fun c2 => ?_)
    · skip
      refine q_aload_n dX11_dry_44 rfl rfl ?_
      refine q_getR (ci := 11) (k := 4) dX11_dry_45 rfl (by decide) rfl tw353 (by decide) qs0 qw0_4 (by decide) ?_
      refine qx_invV (ci := 1) [] [(2, 26)] rfl qM_X1_strike dX11_dry_48 tw783 rfl qs26 rfl rfl rfl rfl (l3 c1 c2) (fun r3 m3 p3 q3 => ?_)
      refine qx_iinc (L' := [(2, 0), (0, j), (0, (v2 + 1))]) dX11_dry_51 rfl rfl rfl (o4 c1 c2 r3 m3 p3 q3) rfl ?_
      refine q_goto (tgt := 23) dX11_dry_54 (by decide) ?_
      exact l5 c1 c2 r3 m3 p3 q3
    · skip
      refine q_iload_n dX11_dry_42 rfl rfl ?_
      exact q_iret dX11_dry_43 (qK_i (l6 c1 c2))
theorem dX12_dry_0 : decode cX12_dry 0 = .ok (.aload_n 0, 1) := by decide +kernel
theorem dX12_dry_1 : decode cX12_dry 1 = .ok (.iconst 0, 1) := by decide +kernel
theorem dX12_dry_2 : decode cX12_dry 2 = .ok (.putfield 128, 3) := by decide +kernel
theorem dX12_dry_5 : decode cX12_dry 5 = .ok (.aload_n 0, 1) := by decide +kernel
theorem dX12_dry_6 : decode cX12_dry 6 = .ok (.iload_n 1, 1) := by decide +kernel
theorem dX12_dry_7 : decode cX12_dry 7 = .ok (.invokevirtual 225, 3) := by decide +kernel
theorem dX12_dry_10 : decode cX12_dry 10 = .ok (.ifCond .ne 5, 3) := by decide +kernel
theorem dX12_dry_13 : decode cX12_dry 13 = .ok (.iconst (-1), 1) := by decide +kernel
theorem dX12_dry_14 : decode cX12_dry 14 = .ok (.ireturn, 1) := by decide +kernel
theorem dX12_dry_15 : decode cX12_dry 15 = .ok (.aload_n 0, 1) := by decide +kernel
theorem dX12_dry_16 : decode cX12_dry 16 = .ok (.invokevirtual 312, 3) := by decide +kernel
theorem dX12_dry_19 : decode cX12_dry 19 = .ok (.iconst 0, 1) := by decide +kernel
theorem dX12_dry_20 : decode cX12_dry 20 = .ok (.istore_n 2, 1) := by decide +kernel
theorem dX12_dry_21 : decode cX12_dry 21 = .ok (.iload_n 2, 1) := by decide +kernel
theorem dX12_dry_22 : decode cX12_dry 22 = .ok (.sipush 200, 3) := by decide +kernel
theorem dX12_dry_25 : decode cX12_dry 25 = .ok (.if_icmp .gt 25, 3) := by decide +kernel
theorem dX12_dry_28 : decode cX12_dry 28 = .ok (.aload_n 0, 1) := by decide +kernel
theorem dX12_dry_29 : decode cX12_dry 29 = .ok (.getfield 72, 3) := by decide +kernel
theorem dX12_dry_32 : decode cX12_dry 32 = .ok (.iload_n 1, 1) := by decide +kernel
theorem dX12_dry_33 : decode cX12_dry 33 = .ok (.iaload, 1) := by decide +kernel
theorem dX12_dry_34 : decode cX12_dry 34 = .ok (.ifCond .ne 5, 3) := by decide +kernel
theorem dX12_dry_37 : decode cX12_dry 37 = .ok (.iload_n 2, 1) := by decide +kernel
theorem dX12_dry_38 : decode cX12_dry 38 = .ok (.ireturn, 1) := by decide +kernel
theorem dX12_dry_39 : decode cX12_dry 39 = .ok (.aload_n 0, 1) := by decide +kernel
theorem dX12_dry_40 : decode cX12_dry 40 = .ok (.invokevirtual 309, 3) := by decide +kernel
theorem dX12_dry_43 : decode cX12_dry 43 = .ok (.pop, 1) := by decide +kernel
theorem dX12_dry_44 : decode cX12_dry 44 = .ok (.iinc 2 1, 3) := by decide +kernel
theorem dX12_dry_47 : decode cX12_dry 47 = .ok (.goto (-26), 3) := by decide +kernel
theorem dX12_dry_50 : decode cX12_dry 50 = .ok (.bipush (-2), 2) := by decide +kernel
theorem dX12_dry_52 : decode cX12_dry 52 = .ok (.ireturn, 1) := by decide +kernel
theorem bkX12_dry_0 {b : Int} {mem : qm} {Q : Int → qm → Prop}
    {j : Int}
    (o1 : q_in32 ((mem 188 0) - 1))
    {P2 : Int → qm → Prop}
    (l2 : (0 ≤ j ∧ j ≤ (mem 188 0) - 1) → q_Ev yX12_begin_ cX12_begin_ 2 none 1 0 0 [(2, 188)] (q_sh0, q_rb b, (q_up mem 188 17 0)) (qK (q_rb b) (P2)))
    (l3 : (0 ≤ j ∧ j ≤ (mem 188 0) - 1) → ∀ (r2 : Int), ∀ (m2 : qm), P2 r2 m2 → q_in32 r2 → q_At yX12_dry cX12_dry 3 (some .int) 3 0 0 (qK (q_rb b) Q) 21 [(2, 188), (0, j), (0, 0)] [] (q_sh0, q_rb b, m2))
    (l4 : ¬ (0 ≤ j ∧ j ≤ (mem 188 0) - 1) → Q (-1) (q_up mem 188 17 0)) :
    q_At yX12_dry cX12_dry 3 (some .int) 3 0 0 (qK (q_rb b) Q) 0 [(2, 188), (0, j), (4, 0)] [] (q_sh0, q_rb b, mem) := by
  refine q_aload_n dX12_dry_0 rfl rfl ?_
  refine qx_iconst dX12_dry_1 rfl rfl ?_
  refine q_putI (ci := 12) (k := 17) (kI := 17) (ty := .int) dX12_dry_2 rfl (by decide) rfl tw1200 rfl rfl rfl (fun _ => ⟨rfl, rfl⟩) qs188 ?_
  refine q_aload_n dX12_dry_5 rfl rfl ?_
  refine q_iload_n dX12_dry_6 rfl rfl ?_
  refine qx_invV (ci := 12) [(0, j)] [(0, j), (2, 188)] rfl qM_X12_isJar dX12_dry_7 tw1433 rfl qs188 rfl rfl rfl rfl (spX12_isJar (by first | exact (o1) | (simp only [q_up, Int.reduceEq, false_and, true_and, and_true, and_false, ite_false, ite_true, if_true, if_false]; exact (o1)))) (fun r1 m1 p1 q1 => ?_)
  obtain ⟨p1e, ⟨p1f, p1⟩ | ⟨p1f, p1⟩⟩ := p1
  · rw [p1e, p1f]
    simp only [q_up, Int.reduceEq, false_and, true_and, and_true, and_false, ite_false, ite_true, if_true, if_false] at p1
    refine qx_if_ne (tgt := 15) dX12_dry_10 (by decide) (fun _ => ?_) (fun z => absurd z (by decide))
    refine q_aload_n dX12_dry_15 rfl rfl ?_
    refine qx_invV (ci := 12) [] [(2, 188)] rfl qM_X12_begin_ dX12_dry_16 tw1559 rfl qs188 rfl rfl rfl rfl (l2 p1) (fun r2 m2 p2 q2 => ?_)
    refine qx_iconst dX12_dry_19 rfl rfl ?_
    refine qx_istore_n (L' := [(2, 188), (0, j), (0, 0)]) dX12_dry_20 rfl rfl rfl rfl ?_
    exact l3 p1 r2 m2 p2 q2
  · rw [p1e, p1f]
    simp only [q_up, Int.reduceEq, false_and, true_and, and_true, and_false, ite_false, ite_true, if_true, if_false] at p1
    refine qx_if_ne (tgt := 15) dX12_dry_10 (by decide) (fun z => absurd z (by decide)) (fun _ => ?_)
    refine qx_iconst dX12_dry_13 rfl rfl ?_
    exact q_iret dX12_dry_14 (qK_i (l4 p1))
theorem bkX12_dry_21 {b : Int} {mem : qm} {Q : Int → qm → Prop}
    {j v2 : Int}
    (l1 : 200 < v2 → Q (-2) mem)
    (o2 : v2 ≤ 200 → (0 ≤ j ∧ j < 9))
    {P3 : Int → qm → Prop}
    (l3 : v2 ≤ 200 → (mem 207 j) ≠ 0 → q_Ev yX12_goOn cX12_goOn 5 (some .int) 1 0 0 [(2, 188)] (q_sh0, q_rb b, mem) (qK (q_rb b) (P3)))
    (o4 : v2 ≤ 200 → (mem 207 j) ≠ 0 → ∀ (r3 : Int), ∀ (m3 : qm), P3 r3 m3 → q_in32 r3 → q_in32 (v2 + 1))
    (l5 : v2 ≤ 200 → (mem 207 j) ≠ 0 → ∀ (r3 : Int), ∀ (m3 : qm), P3 r3 m3 → q_in32 r3 → q_At yX12_dry cX12_dry 3 (some .int) 3 0 0 (qK (q_rb b) Q) 21 [(2, 188), (0, j), (0, (v2 + 1))] [] (q_sh0, q_rb b, m3))
    (l6 : v2 ≤ 200 → (mem 207 j) = 0 → Q v2 mem) :
    q_At yX12_dry cX12_dry 3 (some .int) 3 0 0 (qK (q_rb b) Q) 21 [(2, 188), (0, j), (0, v2)] [] (q_sh0, q_rb b, mem) := by
  refine q_iload_n dX12_dry_21 rfl rfl ?_
  refine qx_sipush dX12_dry_22 rfl rfl ?_
  refine qx_icmp_gt (tgt := 50) dX12_dry_25 (by decide) (fun c1 => ?_) (fun c1 => ?_)
  · skip
    refine qx_bipush dX12_dry_50 rfl rfl ?_
    exact q_iret dX12_dry_52 (qK_i (l1 c1))
  · skip
    refine q_aload_n dX12_dry_28 rfl rfl ?_
    refine q_getR (ci := 12) (k := 33) dX12_dry_29 rfl (by decide) rfl tw1216 (by decide) qs188 qw188_33 (by decide) ?_
    refine q_iload_n dX12_dry_32 rfl rfl ?_
    refine qx_iald (v := (mem 207 j)) dX12_dry_33 qs207 (o2 c1) rfl ?_
    refine qx_if_ne (tgt := 39) dX12_dry_34 (by decide) (fun c2 => ?_) (fun c2 => ?_)
    · skip
      refine q_aload_n dX12_dry_39 rfl rfl ?_
      refine qx_invV (ci := 12) [] [(2, 188)] rfl qM_X12_goOn dX12_dry_40 tw1567 rfl qs188 rfl rfl rfl rfl (l3 c1 c2) (fun r3 m3 p3 q3 => ?_)
      refine q_pop dX12_dry_43 (fun h => by cases h) ?_
      refine qx_iinc (L' := [(2, 188), (0, j), (0, (v2 + 1))]) dX12_dry_44 rfl rfl rfl (o4 c1 c2 r3 m3 p3 q3) rfl ?_
      refine q_goto (tgt := 21) dX12_dry_47 (by decide) ?_
      exact l5 c1 c2 r3 m3 p3 q3
    · skip
      refine q_iload_n dX12_dry_37 rfl rfl ?_
      exact q_iret dX12_dry_38 (qK_i (l6 c1 c2))
