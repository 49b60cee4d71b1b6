theorem dX11_canStandBelow_0 : decode cX11_canStandBelow 0 = .ok (.aload_n 0, 1) := by decide +kernel
theorem dX11_canStandBelow_1 : decode cX11_canStandBelow 1 = .ok (.iload_n 1, 1) := by decide +kernel
theorem dX11_canStandBelow_2 : decode cX11_canStandBelow 2 = .ok (.invokevirtual 131, 3) := by decide +kernel
theorem dX11_canStandBelow_5 : decode cX11_canStandBelow 5 = .ok (.ifCond .eq 28, 3) := by decide +kernel
theorem dX11_canStandBelow_8 : decode cX11_canStandBelow 8 = .ok (.aload_n 0, 1) := by decide +kernel
theorem dX11_canStandBelow_9 : decode cX11_canStandBelow 9 = .ok (.getfield 10, 3) := by decide +kernel
theorem dX11_canStandBelow_12 : decode cX11_canStandBelow 12 = .ok (.getfield 154, 3) := by decide +kernel
theorem dX11_canStandBelow_15 : decode cX11_canStandBelow 15 = .ok (.iload_n 1, 1) := by decide +kernel
theorem dX11_canStandBelow_16 : decode cX11_canStandBelow 16 = .ok (.iaload, 1) := by decide +kernel
theorem dX11_canStandBelow_17 : decode cX11_canStandBelow 17 = .ok (.aload_n 0, 1) := by decide +kernel
theorem dX11_canStandBelow_18 : decode cX11_canStandBelow 18 = .ok (.getfield 10, 3) := by decide +kernel
theorem dX11_canStandBelow_21 : decode cX11_canStandBelow 21 = .ok (.getfield 154, 3) := by decide +kernel
theorem dX11_canStandBelow_24 : decode cX11_canStandBelow 24 = .ok (.iload_n 2, 1) := by decide +kernel
theorem dX11_canStandBelow_25 : decode cX11_canStandBelow 25 = .ok (.iaload, 1) := by decide +kernel
theorem dX11_canStandBelow_26 : decode cX11_canStandBelow 26 = .ok (.if_icmp .ge 7, 3) := by decide +kernel
theorem dX11_canStandBelow_29 : decode cX11_canStandBelow 29 = .ok (.iconst 1, 1) := by decide +kernel
theorem dX11_canStandBelow_30 : decode cX11_canStandBelow 30 = .ok (.goto 4, 3) := by decide +kernel
theorem dX11_canStandBelow_33 : decode cX11_canStandBelow 33 = .ok (.iconst 0, 1) := by decide +kernel
theorem dX11_canStandBelow_34 : decode cX11_canStandBelow 34 = .ok (.ireturn, 1) := by decide +kernel
theorem bkX11_canStandBelow_0 {b : Int} {mem : qm} {Q : Int → qm → Prop}
    {q j : Int}
    (o1 : (0 ≤ q ∧ q < (mem 1 3)) → (0 ≤ q ∧ q < 9) ∧ (0 ≤ j ∧ j < 9))
    (l2 : (0 ≤ q ∧ q < (mem 1 3)) → (mem 4 j) ≤ (mem 4 q) → Q 0 mem)
    (l3 : (0 ≤ q ∧ q < (mem 1 3)) → (mem 4 q) < (mem 4 j) → Q 1 mem)
    (l4 : ¬ (0 ≤ q ∧ q < (mem 1 3)) → Q 0 mem) :
    q_At yX11_canStandBelow cX11_canStandBelow 3 (some .boolean) 2 0 0 (qK (q_rb b) Q) 0 [(2, 0), (0, q), (0, j)] [] (q_sh0, q_rb b, mem) := by
  refine q_aload_n dX11_canStandBelow_0 rfl rfl ?_
  refine q_iload_n dX11_canStandBelow_1 rfl rfl ?_
  refine qx_invV (ci := 11) [(0, q)] [(0, q), (2, 0)] rfl qM_X11_isJar dX11_canStandBelow_2 tw576 rfl qs0 rfl rfl rfl rfl (spX11_isJar) (fun r1 m1 p1 q1 => ?_)
  obtain ⟨p1e, ⟨p1f, p1⟩ | ⟨p1f, p1⟩⟩ := p1
  · rw [p1e, p1f]
    refine qx_if_eq (tgt := 33) dX11_canStandBelow_5 (by decide) (fun z => absurd z (by decide)) (fun _ => ?_)
    refine q_aload_n dX11_canStandBelow_8 rfl rfl ?_
    refine q_getR (ci := 11) (k := 0) dX11_canStandBelow_9 rfl (by decide) rfl tw349 (by decide) qs0 qw0_0 (by decide) ?_
    refine q_getR (ci := 9) (k := 2) dX11_canStandBelow_12 rfl (by decide) rfl tw47 (by decide) qs1 qw1_2 (by decide) ?_
    refine q_iload_n dX11_canStandBelow_15 rfl rfl ?_
    refine qx_iald (v := (mem 4 q)) dX11_canStandBelow_16 qs4 (o1 p1).1 rfl ?_
    refine q_aload_n dX11_canStandBelow_17 rfl rfl ?_
    refine q_getR (ci := 11) (k := 0) dX11_canStandBelow_18 rfl (by decide) rfl tw349 (by decide) qs0 qw0_0 (by decide) ?_
    refine q_getR (ci := 9) (k := 2) dX11_canStandBelow_21 rfl (by decide) rfl tw47 (by decide) qs1 qw1_2 (by decide) ?_
    refine q_iload_n dX11_canStandBelow_24 rfl rfl ?_
    refine qx_iald (v := (mem 4 j)) dX11_canStandBelow_25 qs4 (o1 p1).2 rfl ?_
    refine qx_icmp_ge (tgt := 33) dX11_canStandBelow_26 (by decide) (fun c2 => ?_) (fun c2 => ?_)
    · skip
      refine qx_iconst dX11_canStandBelow_33 rfl rfl ?_
      exact q_zret dX11_canStandBelow_34 (by decide) (qK_i (l2 p1 c2))
    · skip
      refine qx_iconst dX11_canStandBelow_29 rfl rfl ?_
      refine q_goto (tgt := 34) dX11_canStandBelow_30 (by decide) ?_
      exact q_zret dX11_canStandBelow_34 (by decide) (qK_i (l3 p1 c2))
  · rw [p1e, p1f]
    refine qx_if_eq (tgt := 33) dX11_canStandBelow_5 (by decide) (fun _ => ?_) (fun z => absurd z (by decide))
    refine qx_iconst dX11_canStandBelow_33 rfl rfl ?_
    exact q_zret dX11_canStandBelow_34 (by decide) (qK_i (l4 p1))
theorem spX11_canStandBelow {b q j : Int} {mem : qm} (g0 : ((mem 1 3) ≤ 9 ∧ 0 ≤ j ∧ j < (mem 1 3))) : q_Ev yX11_canStandBelow cX11_canStandBelow 3 (some .boolean) 2 0 0 [(2, 0), (0, q), (0, j)] (q_sh0, q_rb b, mem) (qK (q_rb b) (fun r m => m = mem ∧ ((r = 1 ∧ ((0 ≤ q ∧ q < (mem 1 3)) ∧ (mem 4 q) < (mem 4 j))) ∨ (r = 0 ∧ ¬ ((0 ≤ q ∧ q < (mem 1 3)) ∧ (mem 4 q) < (mem 4 j)))))) := by
  refine q_enter (by decide +kernel) (by simp) (Nat.le_of_ble_eq_true rfl) ?_
  exact bkX11_canStandBelow_0 (by intros; (repeat' (first | (refine And.intro ?_ ?_) | (refine q_in_of ?_ ?_))) <;> omega) (by intros; refine ⟨rfl, ?_⟩; first | exact Or.inl ⟨rfl, by omega⟩ | exact Or.inr ⟨rfl, by omega⟩) (by intros; refine ⟨rfl, ?_⟩; first | exact Or.inl ⟨rfl, by omega⟩ | exact Or.inr ⟨rfl, by omega⟩) (by intros; refine ⟨rfl, ?_⟩; first | exact Or.inl ⟨rfl, by omega⟩ | exact Or.inr ⟨rfl, by omega⟩)
theorem dX11_hole_0 : decode cX11_hole 0 = .ok (.aload_n 0, 1) := by decide +kernel
theorem dX11_hole_1 : decode cX11_hole 1 = .ok (.iload_n 1, 1) := by decide +kernel
theorem dX11_hole_2 : decode cX11_hole 2 = .ok (.invokevirtual 131, 3) := by decide +kernel
theorem dX11_hole_5 : decode cX11_hole 5 = .ok (.ifCond .eq 13, 3) := by decide +kernel
theorem dX11_hole_8 : decode cX11_hole 8 = .ok (.iload_n 2, 1) := by decide +kernel
theorem dX11_hole_9 : decode cX11_hole 9 = .ok (.ifCond .lt 9, 3) := by decide +kernel
theorem dX11_hole_12 : decode cX11_hole 12 = .ok (.iload_n 2, 1) := by decide +kernel
theorem dX11_hole_13 : decode cX11_hole 13 = .ok (.bipush 9, 2) := by decide +kernel
theorem dX11_hole_15 : decode cX11_hole 15 = .ok (.if_icmp .le 5, 3) := by decide +kernel
theorem dX11_hole_18 : decode cX11_hole 18 = .ok (.iconst (-1), 1) := by decide +kernel
theorem dX11_hole_19 : decode cX11_hole 19 = .ok (.ireturn, 1) := by decide +kernel
theorem dX11_hole_20 : decode cX11_hole 20 = .ok (.aload_n 0, 1) := by decide +kernel
theorem dX11_hole_21 : decode cX11_hole 21 = .ok (.getfield 19, 3) := by decide +kernel
theorem dX11_hole_24 : decode cX11_hole 24 = .ok (.getfield 148, 3) := by decide +kernel
theorem dX11_hole_27 : decode cX11_hole 27 = .ok (.iload_n 1, 1) := by decide +kernel
theorem dX11_hole_28 : decode cX11_hole 28 = .ok (.iaload, 1) := by decide +kernel
theorem dX11_hole_29 : decode cX11_hole 29 = .ok (.istore_n 3, 1) := by decide +kernel
theorem dX11_hole_30 : decode cX11_hole 30 = .ok (.aload_n 0, 1) := by decide +kernel
theorem dX11_hole_31 : decode cX11_hole 31 = .ok (.getfield 19, 3) := by decide +kernel
theorem dX11_hole_34 : decode cX11_hole 34 = .ok (.getfield 148, 3) := by decide +kernel
theorem dX11_hole_37 : decode cX11_hole 37 = .ok (.iload_n 1, 1) := by decide +kernel
theorem dX11_hole_38 : decode cX11_hole 38 = .ok (.iload_n 2, 1) := by decide +kernel
theorem dX11_hole_39 : decode cX11_hole 39 = .ok (.iastore, 1) := by decide +kernel
theorem dX11_hole_40 : decode cX11_hole 40 = .ok (.iload_n 3, 1) := by decide +kernel
theorem dX11_hole_41 : decode cX11_hole 41 = .ok (.ireturn, 1) := by decide +kernel
theorem bkX11_hole_0 {b : Int} {mem : qm} {Q : Int → qm → Prop}
    {j v : Int}
    (l1 : (0 ≤ j ∧ j < (mem 1 3)) → v < 0 → Q (-1) mem)
    (o2 : (0 ≤ j ∧ j < (mem 1 3)) → 0 ≤ v → v ≤ 9 → (0 ≤ j ∧ j < 9))
    (l3 : (0 ≤ j ∧ j < (mem 1 3)) → 0 ≤ v → v ≤ 9 → Q (mem 10 j) (q_up mem 10 j v))
    (l4 : (0 ≤ j ∧ j < (mem 1 3)) → 0 ≤ v → 9 < v → Q (-1) mem)
    (l5 : ¬ (0 ≤ j ∧ j < (mem 1 3)) → Q (-1) mem) :
    q_At yX11_hole cX11_hole 4 (some .int) 2 0 0 (qK (q_rb b) Q) 0 [(2, 0), (0, j), (0, v), (4, 0)] [] (q_sh0, q_rb b, mem) := by
  refine q_aload_n dX11_hole_0 rfl rfl ?_
  refine q_iload_n dX11_hole_1 rfl rfl ?_
  refine qx_invV (ci := 11) [(0, j)] [(0, j), (2, 0)] rfl qM_X11_isJar dX11_hole_2 tw576 rfl qs0 rfl rfl rfl rfl (spX11_isJar) (fun r1 m1 p1 q1 => ?_)
  obtain ⟨p1e, ⟨p1f, p1⟩ | ⟨p1f, p1⟩⟩ := p1
  · rw [p1e, p1f]
    refine qx_if_eq (tgt := 18) dX11_hole_5 (by decide) (fun z => absurd z (by decide)) (fun _ => ?_)
    refine q_iload_n dX11_hole_8 rfl rfl ?_
    refine qx_if_lt (tgt := 18) dX11_hole_9 (by decide) (fun c2 => ?_) (fun c2 => ?_)
    · skip
      refine qx_iconst dX11_hole_18 rfl rfl ?_
      exact q_iret dX11_hole_19 (qK_i (l1 p1 c2))
    · skip
      refine q_iload_n dX11_hole_12 rfl rfl ?_
      refine qx_bipush dX11_hole_13 rfl rfl ?_
      refine qx_icmp_le (tgt := 20) dX11_hole_15 (by decide) (fun c3 => ?_) (fun c3 => ?_)
      · skip
        refine q_aload_n dX11_hole_20 rfl rfl ?_
        refine q_getR (ci := 11) (k := 1) dX11_hole_21 rfl (by decide) rfl tw350 (by decide) qs0 qw0_1 (by decide) ?_
        refine q_getR (ci := 7) (k := 4) dX11_hole_24 rfl (by decide) rfl tw87 (by decide) qs5 qw5_4 (by decide) ?_
        refine q_iload_n dX11_hole_27 rfl rfl ?_
        refine qx_iald (v := (mem 10 j)) dX11_hole_28 qs10 (o2 p1 c2 c3) rfl ?_
        refine qx_istore_n (L' := [(2, 0), (0, j), (0, v), (0, (mem 10 j))]) dX11_hole_29 rfl rfl rfl rfl ?_
        refine q_aload_n dX11_hole_30 rfl rfl ?_
        refine q_getR (ci := 11) (k := 1) dX11_hole_31 rfl (by decide) rfl tw350 (by decide) qs0 qw0_1 (by decide) ?_
        refine q_getR (ci := 7) (k := 4) dX11_hole_34 rfl (by decide) rfl tw87 (by decide) qs5 qw5_4 (by decide) ?_
        refine q_iload_n dX11_hole_37 rfl rfl ?_
        refine q_iload_n dX11_hole_38 rfl rfl ?_
        refine q_iast dX11_hole_39 qs10 ((o2 p1 c2 c3)).1 ((o2 p1 c2 c3)).2 ?_
        refine q_iload_n dX11_hole_40 rfl rfl ?_
        exact q_iret dX11_hole_41 (qK_i (l3 p1 c2 c3))
      · skip
        refine qx_iconst dX11_hole_18 rfl rfl ?_
        exact q_iret dX11_hole_19 (qK_i (l4 p1 c2 c3))
  · rw [p1e, p1f]
    refine qx_if_eq (tgt := 18) dX11_hole_5 (by decide) (fun _ => ?_) (fun z => absurd z (by decide))
    refine qx_iconst dX11_hole_18 rfl rfl ?_
    exact q_iret dX11_hole_19 (qK_i (l5 p1))
theorem dX12_hole_0 : decode cX12_hole 0 = .ok (.aload_n 0, 1) := by decide +kernel
theorem dX12_hole_1 : decode cX12_hole 1 = .ok (.iconst 0, 1) := by decide +kernel
theorem dX12_hole_2 : decode cX12_hole 2 = .ok (.putfield 128, 3) := by decide +kernel
theorem dX12_hole_5 : decode cX12_hole 5 = .ok (.aload_n 0, 1) := by decide +kernel
theorem dX12_hole_6 : decode cX12_hole 6 = .ok (.iload_n 1, 1) := by decide +kernel
theorem dX12_hole_7 : decode cX12_hole 7 = .ok (.invokevirtual 225, 3) := by decide +kernel
theorem dX12_hole_10 : decode cX12_hole 10 = .ok (.ifCond .eq 13, 3) := by decide +kernel
theorem dX12_hole_13 : decode cX12_hole 13 = .ok (.iload_n 2, 1) := by decide +kernel
theorem dX12_hole_14 : decode cX12_hole 14 = .ok (.iconst 0, 1) := by decide +kernel
theorem dX12_hole_15 : decode cX12_hole 15 = .ok (.bipush 9, 2) := by decide +kernel
theorem dX12_hole_17 : decode cX12_hole 17 = .ok (.invokestatic 137, 3) := by decide +kernel
theorem dX12_hole_20 : decode cX12_hole 20 = .ok (.ifCond .ne 5, 3) := by decide +kernel
theorem dX12_hole_23 : decode cX12_hole 23 = .ok (.iconst (-1), 1) := by decide +kernel
theorem dX12_hole_24 : decode cX12_hole 24 = .ok (.ireturn, 1) := by decide +kernel
theorem dX12_hole_25 : decode cX12_hole 25 = .ok (.aload_n 0, 1) := by decide +kernel
theorem dX12_hole_26 : decode cX12_hole 26 = .ok (.getfield 16, 3) := by decide +kernel
theorem dX12_hole_29 : decode cX12_hole 29 = .ok (.iload_n 1, 1) := by decide +kernel
theorem dX12_hole_30 : decode cX12_hole 30 = .ok (.iaload, 1) := by decide +kernel
theorem dX12_hole_31 : decode cX12_hole 31 = .ok (.istore_n 3, 1) := by decide +kernel
theorem dX12_hole_32 : decode cX12_hole 32 = .ok (.aload_n 0, 1) := by decide +kernel
theorem dX12_hole_33 : decode cX12_hole 33 = .ok (.getfield 16, 3) := by decide +kernel
theorem dX12_hole_36 : decode cX12_hole 36 = .ok (.iload_n 1, 1) := by decide +kernel
theorem dX12_hole_37 : decode cX12_hole 37 = .ok (.iload_n 2, 1) := by decide +kernel
theorem dX12_hole_38 : decode cX12_hole 38 = .ok (.iastore, 1) := by decide +kernel
theorem dX12_hole_39 : decode cX12_hole 39 = .ok (.iload_n 3, 1) := by decide +kernel
theorem dX12_hole_40 : decode cX12_hole 40 = .ok (.ireturn, 1) := by decide +kernel
theorem bkX12_hole_0 {b : Int} {mem : qm} {Q : Int → qm → Prop}
    {j v : Int}
    (o1 : q_in32 ((mem 188 0) - 1))
    (o2 : (0 ≤ j ∧ j ≤ (mem 188 0) - 1) → (0 ≤ v ∧ v ≤ 9) → (0 ≤ j ∧ j < 9))
    (l3 : (0 ≤ j ∧ j ≤ (mem 188 0) - 1) → (0 ≤ v ∧ v ≤ 9) → Q (mem 191 j) (q_up (q_up mem 188 17 0) 191 j v))
    (l4 : (0 ≤ j ∧ j ≤ (mem 188 0) - 1) → ¬ (0 ≤ v ∧ v ≤ 9) → Q (-1) (q_up mem 188 17 0))
    (l5 : ¬ (0 ≤ j ∧ j ≤ (mem 188 0) - 1) → Q (-1) (q_up mem 188 17 0)) :
    q_At yX12_hole cX12_hole 4 (some .int) 3 0 0 (qK (q_rb b) Q) 0 [(2, 188), (0, j), (0, v), (4, 0)] [] (q_sh0, q_rb b, mem) := by
  refine q_aload_n dX12_hole_0 rfl rfl ?_
  refine qx_iconst dX12_hole_1 rfl rfl ?_
  refine q_putI (ci := 12) (k := 17) (kI := 17) (ty := .int) dX12_hole_2 rfl (by decide) rfl tw1200 rfl rfl rfl (fun _ => ⟨rfl, rfl⟩) qs188 ?_
  refine q_aload_n dX12_hole_5 rfl rfl ?_
  refine q_iload_n dX12_hole_6 rfl rfl ?_
  refine qx_invV (ci := 12) [(0, j)] [(0, j), (2, 188)] rfl qM_X12_isJar dX12_hole_7 tw1433 rfl qs188 rfl rfl rfl rfl (spX12_isJar (by first | exact (o1) | (simp only [q_up, Int.reduceEq, false_and, true_and, and_true, and_false, ite_false, ite_true, if_true, if_false]; exact (o1)))) (fun r1 m1 p1 q1 => ?_)
  obtain ⟨p1e, ⟨p1f, p1⟩ | ⟨p1f, p1⟩⟩ := p1
  · rw [p1e, p1f]
    simp only [q_up, Int.reduceEq, false_and, true_and, and_true, and_false, ite_false, ite_true, if_true, if_false] at p1
    refine qx_if_eq (tgt := 23) dX12_hole_10 (by decide) (fun z => absurd z (by decide)) (fun _ => ?_)
    refine q_iload_n dX12_hole_13 rfl rfl ?_
    refine qx_iconst dX12_hole_14 rfl rfl ?_
    refine qx_bipush dX12_hole_15 rfl rfl ?_
    refine qx_invS [(0, v), (0, 0), (0, 9)] [(0, 9), (0, 0), (0, v)] rfl qM_X12_in dX12_hole_17 tw1362 rfl rfl rfl rfl (spX12_in) (fun r2 m2 p2 q2 => ?_)
    obtain ⟨p2e, ⟨p2f, p2⟩ | ⟨p2f, p2⟩⟩ := p2
    · rw [p2e, p2f]
      refine qx_if_ne (tgt := 25) dX12_hole_20 (by decide) (fun _ => ?_) (fun z => absurd z (by decide))
      refine q_aload_n dX12_hole_25 rfl rfl ?_
      refine q_getR (ci := 12) (k := 3) dX12_hole_26 rfl (by decide) rfl tw1186 (by decide) qs188 qw188_3 (by decide) ?_
      refine q_iload_n dX12_hole_29 rfl rfl ?_
      refine qx_iald (v := (mem 191 j)) dX12_hole_30 qs191 (o2 p1 p2) (q_up_c (by decide)) ?_
      refine qx_istore_n (L' := [(2, 188), (0, j), (0, v), (0, (mem 191 j))]) dX12_hole_31 rfl rfl rfl rfl ?_
      refine q_aload_n dX12_hole_32 rfl rfl ?_
      refine q_getR (ci := 12) (k := 3) dX12_hole_33 rfl (by decide) rfl tw1186 (by decide) qs188 qw188_3 (by decide) ?_
      refine q_iload_n dX12_hole_36 rfl rfl ?_
      refine q_iload_n dX12_hole_37 rfl rfl ?_
      refine q_iast dX12_hole_38 qs191 ((o2 p1 p2)).1 ((o2 p1 p2)).2 ?_
      refine q_iload_n dX12_hole_39 rfl rfl ?_
      exact q_iret dX12_hole_40 (qK_i (l3 p1 p2))
    · rw [p2e, p2f]
      refine qx_if_ne (tgt := 25) dX12_hole_20 (by decide) (fun z => absurd z (by decide)) (fun _ => ?_)
      refine qx_iconst dX12_hole_23 rfl rfl ?_
      exact q_iret dX12_hole_24 (qK_i (l4 p1 p2))
  · rw [p1e, p1f]
    simp only [q_up, Int.reduceEq, false_and, true_and, and_true, and_false, ite_false, ite_true, if_true, if_false] at p1
    refine qx_if_eq (tgt := 23) dX12_hole_10 (by decide) (fun _ => ?_) (fun z => absurd z (by decide))
    refine qx_iconst dX12_hole_23 rfl rfl ?_
    exact q_iret dX12_hole_24 (qK_i (l5 p1))
theorem dX11_below_0 : decode cX11_below 0 = .ok (.aload_n 0, 1) := by decide +kernel
theorem dX11_below_1 : decode cX11_below 1 = .ok (.iload_n 1, 1) := by decide +kernel
theorem dX11_below_2 : decode cX11_below 2 = .ok (.invokevirtual 131, 3) := by decide +kernel
theorem dX11_below_5 : decode cX11_below 5 = .ok (.ifCond .eq 17, 3) := by decide +kernel
theorem dX11_below_8 : decode cX11_below 8 = .ok (.iload_n 2, 1) := by decide +kernel
theorem dX11_below_9 : decode cX11_below 9 = .ok (.iconst (-1), 1) := by decide +kernel
theorem dX11_below_10 : decode cX11_below 10 = .ok (.if_icmp .eq 14, 3) := by decide +kernel
theorem dX11_below_13 : decode cX11_below 13 = .ok (.aload_n 0, 1) := by decide +kernel
theorem dX11_below_14 : decode cX11_below 14 = .ok (.iload_n 2, 1) := by decide +kernel
theorem dX11_below_15 : decode cX11_below 15 = .ok (.iload_n 1, 1) := by decide +kernel
theorem dX11_below_16 : decode cX11_below 16 = .ok (.invokevirtual 169, 3) := by decide +kernel
theorem dX11_below_19 : decode cX11_below 19 = .ok (.ifCond .ne 5, 3) := by decide +kernel
theorem dX11_below_22 : decode cX11_below 22 = .ok (.iconst 0, 1) := by decide +kernel
theorem dX11_below_23 : decode cX11_below 23 = .ok (.ireturn, 1) := by decide +kernel
theorem dX11_below_24 : decode cX11_below 24 = .ok (.aload_n 0, 1) := by decide +kernel
theorem dX11_below_25 : decode cX11_below 25 = .ok (.getfield 19, 3) := by decide +kernel
theorem dX11_below_28 : decode cX11_below 28 = .ok (.getfield 157, 3) := by decide +kernel
theorem dX11_below_31 : decode cX11_below 31 = .ok (.iload_n 1, 1) := by decide +kernel
theorem dX11_below_32 : decode cX11_below 32 = .ok (.iload_n 2, 1) := by decide +kernel
theorem dX11_below_33 : decode cX11_below 33 = .ok (.iastore, 1) := by decide +kernel
theorem dX11_below_34 : decode cX11_below 34 = .ok (.iconst 1, 1) := by decide +kernel
theorem dX11_below_35 : decode cX11_below 35 = .ok (.ireturn, 1) := by decide +kernel
theorem bkX11_below_0 {b : Int} {mem : qm} {Q : Int → qm → Prop}
    {j q : Int}
    (o1 : (0 ≤ j ∧ j < (mem 1 3)) → q = (-1) → (0 ≤ j ∧ j < 9))
    (l2 : (0 ≤ j ∧ j < (mem 1 3)) → q = (-1) → Q 1 (q_up mem 11 j q))
    (o3 : (0 ≤ j ∧ j < (mem 1 3)) → q ≠ (-1) → ((mem 1 3) ≤ 9 ∧ 0 ≤ j ∧ j < (mem 1 3)))
    (o4 : (0 ≤ j ∧ j < (mem 1 3)) → q ≠ (-1) → ((0 ≤ q ∧ q < (mem 1 3)) ∧ (mem 4 q) < (mem 4 j)) → (0 ≤ j ∧ j < 9))
    (l5 : (0 ≤ j ∧ j < (mem 1 3)) → q ≠ (-1) → ((0 ≤ q ∧ q < (mem 1 3)) ∧ (mem 4 q) < (mem 4 j)) → Q 1 (q_up mem 11 j q))
    (l6 : (0 ≤ j ∧ j < (mem 1 3)) → q ≠ (-1) → ¬ ((0 ≤ q ∧ q < (mem 1 3)) ∧ (mem 4 q) < (mem 4 j)) → Q 0 mem)
    (l7 : ¬ (0 ≤ j ∧ j < (mem 1 3)) → Q 0 mem) :
    q_At yX11_below cX11_below 3 (some .boolean) 3 0 0 (qK (q_rb b) Q) 0 [(2, 0), (0, j), (0, q)] [] (q_sh0, q_rb b, mem) := by
  refine q_aload_n dX11_below_0 rfl rfl ?_
  refine q_iload_n dX11_below_1 rfl rfl ?_
  refine qx_invV (ci := 11) [(0, j)] [(0, j), (2, 0)] rfl qM_X11_isJar dX11_below_2 tw576 rfl qs0 rfl rfl rfl rfl (spX11_isJar) (fun r1 m1 p1 q1 => ?_)
  obtain ⟨p1e, ⟨p1f, p1⟩ | ⟨p1f, p1⟩⟩ := p1
  · rw [p1e, p1f]
    refine qx_if_eq (tgt := 22) dX11_below_5 (by decide) (fun z => absurd z (by decide)) (fun _ => ?_)
    refine q_iload_n dX11_below_8 rfl rfl ?_
    refine qx_iconst dX11_below_9 rfl rfl ?_
    refine qx_icmp_eq (tgt := 24) dX11_below_10 (by decide) (fun c2 => ?_) (fun c2 => ?_)
    · skip
      refine q_aload_n dX11_below_24 rfl rfl ?_
      refine q_getR (ci := 11) (k := 1) dX11_below_25 rfl (by decide) rfl tw350 (by decide) qs0 qw0_1 (by decide) ?_
      refine q_getR (ci := 7) (k := 5) dX11_below_28 rfl (by decide) rfl tw92 (by decide) qs5 qw5_5 (by decide) ?_
      refine q_iload_n dX11_below_31 rfl rfl ?_
      refine q_iload_n dX11_below_32 rfl rfl ?_
      refine q_iast dX11_below_33 qs11 ((o1 p1 c2)).1 ((o1 p1 c2)).2 ?_
      refine qx_iconst dX11_below_34 rfl rfl ?_
      exact q_zret dX11_below_35 (by decide) (qK_i (l2 p1 c2))
    · skip
      refine q_aload_n dX11_below_13 rfl rfl ?_
      refine q_iload_n dX11_below_14 rfl rfl ?_
      refine q_iload_n dX11_below_15 rfl rfl ?_
      refine qx_invV (ci := 11) [(0, q), (0, j)] [(0, j), (0, q), (2, 0)] rfl qM_X11_canStandBelow dX11_below_16 tw584 rfl qs0 rfl rfl rfl rfl (spX11_canStandBelow (o3 p1 c2)) (fun r3 m3 p3 q3 => ?_)
      obtain ⟨p3e, ⟨p3f, p3⟩ | ⟨p3f, p3⟩⟩ := p3
      · rw [p3e, p3f]
        refine qx_if_ne (tgt := 24) dX11_below_19 (by decide) (fun _ => ?_) (fun z => absurd z (by decide))
        refine q_aload_n dX11_below_24 rfl rfl ?_
        refine q_getR (ci := 11) (k := 1) dX11_below_25 rfl (by decide) rfl tw350 (by decide) qs0 qw0_1 (by decide) ?_
        refine q_getR (ci := 7) (k := 5) dX11_below_28 rfl (by decide) rfl tw92 (by decide) qs5 qw5_5 (by decide) ?_
        refine q_iload_n dX11_below_31 rfl rfl ?_
        refine q_iload_n dX11_below_32 rfl rfl ?_
        refine q_iast dX11_below_33 qs11 ((o4 p1 c2 p3)).1 ((o4 p1 c2 p3)).2 ?_
        refine qx_iconst dX11_below_34 rfl rfl ?_
        exact q_zret dX11_below_35 (by decide) (qK_i (l5 p1 c2 p3))
      · rw [p3e, p3f]
        refine qx_if_ne (tgt := 24) dX11_below_19 (by decide) (fun z => absurd z (by decide)) (fun _ => ?_)
        refine qx_iconst dX11_below_22 rfl rfl ?_
        exact q_zret dX11_below_23 (by decide) (qK_i (l6 p1 c2 p3))
  · rw [p1e, p1f]
    refine qx_if_eq (tgt := 22) dX11_below_5 (by decide) (fun _ => ?_) (fun z => absurd z (by decide))
    refine qx_iconst dX11_below_22 rfl rfl ?_
    exact q_zret dX11_below_23 (by decide) (qK_i (l7 p1))
theorem dX12_below_0 : decode cX12_below 0 = .ok (.aload_n 0, 1) := by decide +kernel
theorem dX12_below_1 : decode cX12_below 1 = .ok (.iconst 0, 1) := by decide +kernel
theorem dX12_below_2 : decode cX12_below 2 = .ok (.putfield 128, 3) := by decide +kernel
theorem dX12_below_5 : decode cX12_below 5 = .ok (.aload_n 0, 1) := by decide +kernel
theorem dX12_below_6 : decode cX12_below 6 = .ok (.iload_n 1, 1) := by decide +kernel
theorem dX12_below_7 : decode cX12_below 7 = .ok (.invokevirtual 225, 3) := by decide +kernel
theorem dX12_below_10 : decode cX12_below 10 = .ok (.ifCond .eq 31, 3) := by decide +kernel
theorem dX12_below_13 : decode cX12_below 13 = .ok (.iload_n 2, 1) := by decide +kernel
theorem dX12_below_14 : decode cX12_below 14 = .ok (.iconst (-1), 1) := by decide +kernel
theorem dX12_below_15 : decode cX12_below 15 = .ok (.if_icmp .eq 28, 3) := by decide +kernel
theorem dX12_below_18 : decode cX12_below 18 = .ok (.aload_n 0, 1) := by decide +kernel
theorem dX12_below_19 : decode cX12_below 19 = .ok (.iload_n 2, 1) := by decide +kernel
theorem dX12_below_20 : decode cX12_below 20 = .ok (.invokevirtual 225, 3) := by decide +kernel
theorem dX12_below_23 : decode cX12_below 23 = .ok (.ifCond .eq 18, 3) := by decide +kernel
theorem dX12_below_26 : decode cX12_below 26 = .ok (.aload_n 0, 1) := by decide +kernel
theorem dX12_below_27 : decode cX12_below 27 = .ok (.getfield 22, 3) := by decide +kernel
theorem dX12_below_30 : decode cX12_below 30 = .ok (.iload_n 2, 1) := by decide +kernel
theorem dX12_below_31 : decode cX12_below 31 = .ok (.iaload, 1) := by decide +kernel
theorem dX12_below_32 : decode cX12_below 32 = .ok (.aload_n 0, 1) := by decide +kernel
theorem dX12_below_33 : decode cX12_below 33 = .ok (.getfield 22, 3) := by decide +kernel
theorem dX12_below_36 : decode cX12_below 36 = .ok (.iload_n 1, 1) := by decide +kernel
theorem dX12_below_37 : decode cX12_below 37 = .ok (.iaload, 1) := by decide +kernel
theorem dX12_below_38 : decode cX12_below 38 = .ok (.if_icmp .lt 5, 3) := by decide +kernel
theorem dX12_below_41 : decode cX12_below 41 = .ok (.iconst 0, 1) := by decide +kernel
theorem dX12_below_42 : decode cX12_below 42 = .ok (.ireturn, 1) := by decide +kernel
theorem dX12_below_43 : decode cX12_below 43 = .ok (.aload_n 0, 1) := by decide +kernel
theorem dX12_below_44 : decode cX12_below 44 = .ok (.getfield 25, 3) := by decide +kernel
theorem dX12_below_47 : decode cX12_below 47 = .ok (.iload_n 1, 1) := by decide +kernel
theorem dX12_below_48 : decode cX12_below 48 = .ok (.iload_n 2, 1) := by decide +kernel
theorem dX12_below_49 : decode cX12_below 49 = .ok (.iastore, 1) := by decide +kernel
theorem dX12_below_50 : decode cX12_below 50 = .ok (.iconst 1, 1) := by decide +kernel
theorem dX12_below_51 : decode cX12_below 51 = .ok (.ireturn, 1) := by decide +kernel
theorem bkX12_below_0 {b : Int} {mem : qm} {Q : Int → qm → Prop}
    {j q : Int}
    (o1 : q_in32 ((mem 188 0) - 1))
    (o2 : (0 ≤ j ∧ j ≤ (mem 188 0) - 1) → q = (-1) → (0 ≤ j ∧ j < 9))
    (l3 : (0 ≤ j ∧ j ≤ (mem 188 0) - 1) → q = (-1) → Q 1 (q_up (q_up mem 188 17 0) 194 j q))
    (o4 : (0 ≤ j ∧ j ≤ (mem 188 0) - 1) → q ≠ (-1) → (0 ≤ q ∧ q ≤ (mem 188 0) - 1) → (0 ≤ q ∧ q < 9) ∧ (0 ≤ j ∧ j < 9))
    (l5 : (0 ≤ j ∧ j ≤ (mem 188 0) - 1) → q ≠ (-1) → (0 ≤ q ∧ q ≤ (mem 188 0) - 1) → (mem 193 q) < (mem 193 j) → Q 1 (q_up (q_up mem 188 17 0) 194 j q))
    (l6 : (0 ≤ j ∧ j ≤ (mem 188 0) - 1) → q ≠ (-1) → (0 ≤ q ∧ q ≤ (mem 188 0) - 1) → (mem 193 j) ≤ (mem 193 q) → Q 0 (q_up mem 188 17 0))
    (l7 : (0 ≤ j ∧ j ≤ (mem 188 0) - 1) → q ≠ (-1) → ¬ (0 ≤ q ∧ q ≤ (mem 188 0) - 1) → Q 0 (q_up mem 188 17 0))
    (l8 : ¬ (0 ≤ j ∧ j ≤ (mem 188 0) - 1) → Q 0 (q_up mem 188 17 0)) :
    q_At yX12_below cX12_below 3 (some .boolean) 3 0 0 (qK (q_rb b) Q) 0 [(2, 188), (0, j), (0, q)] [] (q_sh0, q_rb b, mem) := by
  refine q_aload_n dX12_below_0 rfl rfl ?_
  refine qx_iconst dX12_below_1 rfl rfl ?_
  refine q_putI (ci := 12) (k := 17) (kI := 17) (ty := .int) dX12_below_2 rfl (by decide) rfl tw1200 rfl rfl rfl (fun _ => ⟨rfl, rfl⟩) qs188 ?_
  refine q_aload_n dX12_below_5 rfl rfl ?_
  refine q_iload_n dX12_below_6 rfl rfl ?_
  refine qx_invV (ci := 12) [(0, j)] [(0, j), (2, 188)] rfl qM_X12_isJar dX12_below_7 tw1433 rfl qs188 rfl rfl rfl rfl (spX12_isJar (by first | exact (o1) | (simp only [q_up, Int.reduceEq, false_and, true_and, and_true, and_false, ite_false, ite_true, if_true, if_false]; exact (o1)))) (fun r1 m1 p1 q1 => ?_)
  obtain ⟨p1e, ⟨p1f, p1⟩ | ⟨p1f, p1⟩⟩ := p1
  · rw [p1e, p1f]
    simp only [q_up, Int.reduceEq, false_and, true_and, and_true, and_false, ite_false, ite_true, if_true, if_false] at p1
    refine qx_if_eq (tgt := 41) dX12_below_10 (by decide) (fun z => absurd z (by decide)) (fun _ => ?_)
    refine q_iload_n dX12_below_13 rfl rfl ?_
    refine qx_iconst dX12_below_14 rfl rfl ?_
    refine qx_icmp_eq (tgt := 43) dX12_below_15 (by decide) (fun c2 => ?_) (fun c2 => ?_)
    · skip
      refine q_aload_n dX12_below_43 rfl rfl ?_
      refine q_getR (ci := 12) (k := 6) dX12_below_44 rfl (by decide) rfl tw1189 (by decide) qs188 qw188_6 (by decide) ?_
      refine q_iload_n dX12_below_47 rfl rfl ?_
      refine q_iload_n dX12_below_48 rfl rfl ?_
      refine q_iast dX12_below_49 qs194 ((o2 p1 c2)).1 ((o2 p1 c2)).2 ?_
      refine qx_iconst dX12_below_50 rfl rfl ?_
      exact q_zret dX12_below_51 (by decide) (qK_i (l3 p1 c2))
    · skip
      refine q_aload_n dX12_below_18 rfl rfl ?_
      refine q_iload_n dX12_below_19 rfl rfl ?_
      refine qx_invV (ci := 12) [(0, q)] [(0, q), (2, 188)] rfl qM_X12_isJar dX12_below_20 tw1433 rfl qs188 rfl rfl rfl rfl (spX12_isJar (by first | exact (o1) | (simp only [q_up, Int.reduceEq, false_and, true_and, and_true, and_false, ite_false, ite_true, if_true, if_false]; exact (o1)))) (fun r3 m3 p3 q3 => ?_)
      obtain ⟨p3e, ⟨p3f, p3⟩ | ⟨p3f, p3⟩⟩ := p3
      · rw [p3e, p3f]
        simp only [q_up, Int.reduceEq, false_and, true_and, and_true, and_false, ite_false, ite_true, if_true, if_false] at p3
        refine qx_if_eq (tgt := 41) dX12_below_23 (by decide) (fun z => absurd z (by decide)) (fun _ => ?_)
        refine q_aload_n dX12_below_26 rfl rfl ?_
        refine q_getR (ci := 12) (k := 5) dX12_below_27 rfl (by decide) rfl tw1188 (by decide) qs188 qw188_5 (by decide) ?_
        refine q_iload_n dX12_below_30 rfl rfl ?_
        refine qx_iald (v := (mem 193 q)) dX12_below_31 qs193 (o4 p1 c2 p3).1 (q_up_c (by decide)) ?_
        refine q_aload_n dX12_below_32 rfl rfl ?_
        refine q_getR (ci := 12) (k := 5) dX12_below_33 rfl (by decide) rfl tw1188 (by decide) qs188 qw188_5 (by decide) ?_
        refine q_iload_n dX12_below_36 rfl rfl ?_
        refine qx_iald (v := (mem 193 j)) dX12_below_37 qs193 (o4 p1 c2 p3).2 (q_up_c (by decide)) ?_
        refine qx_icmp_lt (tgt := 43) dX12_below_38 (by decide) (fun c4 => ?_) (fun c4 => ?_)
        · skip
          refine q_aload_n dX12_below_43 rfl rfl ?_
          refine q_getR (ci := 12) (k := 6) dX12_below_44 rfl (by decide) rfl tw1189 (by decide) qs188 qw188_6 (by decide) ?_
          refine q_iload_n dX12_below_47 rfl rfl ?_
          refine q_iload_n dX12_below_48 rfl rfl ?_
          refine q_iast dX12_below_49 qs194 ((o4 p1 c2 p3).2).1 ((o4 p1 c2 p3).2).2 ?_
          refine qx_iconst dX12_below_50 rfl rfl ?_
          exact q_zret dX12_below_51 (by decide) (qK_i (l5 p1 c2 p3 c4))
        · skip
          refine qx_iconst dX12_below_41 rfl rfl ?_
          exact q_zret dX12_below_42 (by decide) (qK_i (l6 p1 c2 p3 c4))
      · rw [p3e, p3f]
        simp only [q_up, Int.reduceEq, false_and, true_and, and_true, and_false, ite_false, ite_true, if_true, if_false] at p3
        refine qx_if_eq (tgt := 41) dX12_below_23 (by decide) (fun _ => ?_) (fun z => absurd z (by decide))
        refine qx_iconst dX12_below_41 rfl rfl ?_
        exact q_zret dX12_below_42 (by decide) (qK_i (l7 p1 c2 p3))
  · rw [p1e, p1f]
    simp only [q_up, Int.reduceEq, false_and, true_and, and_true, and_false, ite_false, ite_true, if_true, if_false] at p1
    refine qx_if_eq (tgt := 41) dX12_below_10 (by decide) (fun _ => ?_) (fun z => absurd z (by decide))
    refine qx_iconst dX12_below_41 rfl rfl ?_
    exact q_zret dX12_below_42 (by decide) (qK_i (l8 p1))
theorem dX11_owes_0 : decode cX11_owes 0 = .ok (.iload_n 1, 1) := by decide +kernel
theorem dX11_owes_1 : decode cX11_owes 1 = .ok (.iload_n 2, 1) := by decide +kernel
theorem dX11_owes_2 : decode cX11_owes 2 = .ok (.invokestatic 276, 3) := by decide +kernel
theorem dX11_owes_5 : decode cX11_owes 5 = .ok (.ifCond .eq 20, 3) := by decide +kernel
theorem dX11_owes_8 : decode cX11_owes 8 = .ok (.aload_n 0, 1) := by decide +kernel
theorem dX11_owes_9 : decode cX11_owes 9 = .ok (.getfield 19, 3) := by decide +kernel
theorem dX11_owes_12 : decode cX11_owes 12 = .ok (.getfield 279, 3) := by decide +kernel
theorem dX11_owes_15 : decode cX11_owes 15 = .ok (.iload_n 1, 1) := by decide +kernel
theorem dX11_owes_16 : decode cX11_owes 16 = .ok (.bipush 6, 2) := by decide +kernel
theorem dX11_owes_18 : decode cX11_owes 18 = .ok (.imul, 1) := by decide +kernel
theorem dX11_owes_19 : decode cX11_owes 19 = .ok (.iload_n 2, 1) := by decide +kernel
theorem dX11_owes_20 : decode cX11_owes 20 = .ok (.iadd, 1) := by decide +kernel
theorem dX11_owes_21 : decode cX11_owes 21 = .ok (.iaload, 1) := by decide +kernel
theorem dX11_owes_22 : decode cX11_owes 22 = .ok (.goto 4, 3) := by decide +kernel
theorem dX11_owes_25 : decode cX11_owes 25 = .ok (.iconst (-1), 1) := by decide +kernel
theorem dX11_owes_26 : decode cX11_owes 26 = .ok (.ireturn, 1) := by decide +kernel
theorem bkX11_owes_0 {b : Int} {mem : qm} {Q : Int → qm → Prop}
    {x y : Int}
    (o1 : ((0 ≤ x ∧ x < 6) ∧ (0 ≤ y ∧ y < 6) ∧ x ≠ y) → q_in32 (x * 6) ∧ q_in32 ((x * 6) + y) ∧ (0 ≤ ((x * 6) + y) ∧ ((x * 6) + y) < 36))
    (l2 : ((0 ≤ x ∧ x < 6) ∧ (0 ≤ y ∧ y < 6) ∧ x ≠ y) → Q (mem 12 ((x * 6) + y)) mem)
    (l3 : ¬ ((0 ≤ x ∧ x < 6) ∧ (0 ≤ y ∧ y < 6) ∧ x ≠ y) → Q (-1) mem) :
    q_At yX11_owes cX11_owes 3 (some .int) 2 0 0 (qK (q_rb b) Q) 0 [(2, 0), (0, x), (0, y)] [] (q_sh0, q_rb b, mem) := by
  refine q_iload_n dX11_owes_0 rfl rfl ?_
  refine q_iload_n dX11_owes_1 rfl rfl ?_
  refine qx_invS [(0, x), (0, y)] [(0, y), (0, x)] rfl qM_X11_areTwoOwners dX11_owes_2 tw760 rfl rfl rfl rfl (spX11_areTwoOwners) (fun r1 m1 p1 q1 => ?_)
  obtain ⟨p1e, ⟨p1f, p1⟩ | ⟨p1f, p1⟩⟩ := p1
  · rw [p1e, p1f]
    refine qx_if_eq (tgt := 25) dX11_owes_5 (by decide) (fun z => absurd z (by decide)) (fun _ => ?_)
    refine q_aload_n dX11_owes_8 rfl rfl ?_
    refine q_getR (ci := 11) (k := 1) dX11_owes_9 rfl (by decide) rfl tw350 (by decide) qs0 qw0_1 (by decide) ?_
    refine q_getR (ci := 7) (k := 6) dX11_owes_12 rfl (by decide) rfl tw97 (by decide) qs5 qw5_6 (by decide) ?_
    refine q_iload_n dX11_owes_15 rfl rfl ?_
    refine qx_bipush dX11_owes_16 rfl rfl ?_
    refine qx_imul dX11_owes_18 (o1 p1).1 ?_
    refine q_iload_n dX11_owes_19 rfl rfl ?_
    refine qx_iadd dX11_owes_20 (o1 p1).2.1 ?_
    refine qx_iald (v := (mem 12 ((x * 6) + y))) dX11_owes_21 qs12 (o1 p1).2.2 rfl ?_
    refine q_goto (tgt := 26) dX11_owes_22 (by decide) ?_
    exact q_iret dX11_owes_26 (qK_i (l2 p1))
  · rw [p1e, p1f]
    refine qx_if_eq (tgt := 25) dX11_owes_5 (by decide) (fun _ => ?_) (fun z => absurd z (by decide))
    refine qx_iconst dX11_owes_25 rfl rfl ?_
    exact q_iret dX11_owes_26 (qK_i (l3 p1))
theorem dX12_owes_0 : decode cX12_owes 0 = .ok (.aload_n 0, 1) := by decide +kernel
theorem dX12_owes_1 : decode cX12_owes 1 = .ok (.iconst 0, 1) := by decide +kernel
theorem dX12_owes_2 : decode cX12_owes 2 = .ok (.putfield 128, 3) := by decide +kernel
theorem dX12_owes_5 : decode cX12_owes 5 = .ok (.iload_n 1, 1) := by decide +kernel
theorem dX12_owes_6 : decode cX12_owes 6 = .ok (.iload_n 2, 1) := by decide +kernel
theorem dX12_owes_7 : decode cX12_owes 7 = .ok (.invokestatic 303, 3) := by decide +kernel
theorem dX12_owes_10 : decode cX12_owes 10 = .ok (.ifCond .eq 17, 3) := by decide +kernel
theorem dX12_owes_13 : decode cX12_owes 13 = .ok (.aload_n 0, 1) := by decide +kernel
theorem dX12_owes_14 : decode cX12_owes 14 = .ok (.getfield 34, 3) := by decide +kernel
theorem dX12_owes_17 : decode cX12_owes 17 = .ok (.bipush 6, 2) := by decide +kernel
theorem dX12_owes_19 : decode cX12_owes 19 = .ok (.iload_n 1, 1) := by decide +kernel
theorem dX12_owes_20 : decode cX12_owes 20 = .ok (.imul, 1) := by decide +kernel
theorem dX12_owes_21 : decode cX12_owes 21 = .ok (.iload_n 2, 1) := by decide +kernel
theorem dX12_owes_22 : decode cX12_owes 22 = .ok (.iadd, 1) := by decide +kernel
theorem dX12_owes_23 : decode cX12_owes 23 = .ok (.iaload, 1) := by decide +kernel
theorem dX12_owes_24 : decode cX12_owes 24 = .ok (.goto 4, 3) := by decide +kernel
theorem dX12_owes_27 : decode cX12_owes 27 = .ok (.iconst (-1), 1) := by decide +kernel
theorem dX12_owes_28 : decode cX12_owes 28 = .ok (.ireturn, 1) := by decide +kernel
theorem bkX12_owes_0 {b : Int} {mem : qm} {Q : Int → qm → Prop}
    {x y : Int}
    (o1 : ((0 ≤ x ∧ x ≤ 5) ∧ (0 ≤ y ∧ y ≤ 5) ∧ x ≠ y) → q_in32 (6 * x) ∧ q_in32 ((6 * x) + y) ∧ (0 ≤ ((6 * x) + y) ∧ ((6 * x) + y) < 36))
    (l2 : ((0 ≤ x ∧ x ≤ 5) ∧ (0 ≤ y ∧ y ≤ 5) ∧ x ≠ y) → Q (mem 197 ((6 * x) + y)) (q_up mem 188 17 0))
    (l3 : ¬ ((0 ≤ x ∧ x ≤ 5) ∧ (0 ≤ y ∧ y ≤ 5) ∧ x ≠ y) → Q (-1) (q_up mem 188 17 0)) :
    q_At yX12_owes cX12_owes 3 (some .int) 4 0 0 (qK (q_rb b) Q) 0 [(2, 188), (0, x), (0, y)] [] (q_sh0, q_rb b, mem) := by
  refine q_aload_n dX12_owes_0 rfl rfl ?_
  refine qx_iconst dX12_owes_1 rfl rfl ?_
  refine q_putI (ci := 12) (k := 17) (kI := 17) (ty := .int) dX12_owes_2 rfl (by decide) rfl tw1200 rfl rfl rfl (fun _ => ⟨rfl, rfl⟩) qs188 ?_
  refine q_iload_n dX12_owes_5 rfl rfl ?_
  refine q_iload_n dX12_owes_6 rfl rfl ?_
  refine qx_invS [(0, x), (0, y)] [(0, y), (0, x)] rfl qM_X12_areOwners dX12_owes_7 tw1549 rfl rfl rfl rfl (spX12_areOwners) (fun r1 m1 p1 q1 => ?_)
  obtain ⟨p1e, ⟨p1f, p1⟩ | ⟨p1f, p1⟩⟩ := p1
  · rw [p1e, p1f]
    refine qx_if_eq (tgt := 27) dX12_owes_10 (by decide) (fun z => absurd z (by decide)) (fun _ => ?_)
    refine q_aload_n dX12_owes_13 rfl rfl ?_
    refine q_getR (ci := 12) (k := 9) dX12_owes_14 rfl (by decide) rfl tw1192 (by decide) qs188 qw188_9 (by decide) ?_
    refine qx_bipush dX12_owes_17 rfl rfl ?_
    refine q_iload_n dX12_owes_19 rfl rfl ?_
    refine qx_imul dX12_owes_20 (o1 p1).1 ?_
    refine q_iload_n dX12_owes_21 rfl rfl ?_
    refine qx_iadd dX12_owes_22 (o1 p1).2.1 ?_
    refine qx_iald (v := (mem 197 ((6 * x) + y))) dX12_owes_23 qs197 (o1 p1).2.2 (q_up_c (by decide)) ?_
    refine q_goto (tgt := 28) dX12_owes_24 (by decide) ?_
    exact q_iret dX12_owes_28 (qK_i (l2 p1))
  · rw [p1e, p1f]
    refine qx_if_eq (tgt := 27) dX12_owes_10 (by decide) (fun _ => ?_) (fun z => absurd z (by decide))
    refine qx_iconst dX12_owes_27 rfl rfl ?_
    exact q_iret dX12_owes_28 (qK_i (l3 p1))
theorem dX11_forget_0 : decode cX11_forget 0 = .ok (.aload_n 0, 1) := by decide +kernel
theorem dX11_forget_1 : decode cX11_forget 1 = .ok (.getfield 90, 3) := by decide +kernel
theorem dX11_forget_4 : decode cX11_forget 4 = .ok (.getfield 379, 3) := by decide +kernel
theorem dX11_forget_7 : decode cX11_forget 7 = .ok (.ifCond .ne 5, 3) := by decide +kernel
theorem dX11_forget_10 : decode cX11_forget 10 = .ok (.iconst (-1), 1) := by decide +kernel
theorem dX11_forget_11 : decode cX11_forget 11 = .ok (.ireturn, 1) := by decide +kernel
theorem dX11_forget_12 : decode cX11_forget 12 = .ok (.aload_n 0, 1) := by decide +kernel
theorem dX11_forget_13 : decode cX11_forget 13 = .ok (.getfield 90, 3) := by decide +kernel
theorem dX11_forget_16 : decode cX11_forget 16 = .ok (.dup, 1) := by decide +kernel
theorem dX11_forget_17 : decode cX11_forget 17 = .ok (.getfield 379, 3) := by decide +kernel
theorem dX11_forget_20 : decode cX11_forget 20 = .ok (.iconst 1, 1) := by decide +kernel
theorem dX11_forget_21 : decode cX11_forget 21 = .ok (.isub, 1) := by decide +kernel
theorem dX11_forget_22 : decode cX11_forget 22 = .ok (.putfield 379, 3) := by decide +kernel
theorem dX11_forget_25 : decode cX11_forget 25 = .ok (.aload_n 0, 1) := by decide +kernel
theorem dX11_forget_26 : decode cX11_forget 26 = .ok (.getfield 90, 3) := by decide +kernel
theorem dX11_forget_29 : decode cX11_forget 29 = .ok (.getfield 379, 3) := by decide +kernel
theorem dX11_forget_32 : decode cX11_forget 32 = .ok (.ireturn, 1) := by decide +kernel
theorem bkX11_forget_0 {b : Int} {mem : qm} {Q : Int → qm → Prop}
    (o1 : (mem 159 3) ≠ 0 → q_in32 ((mem 159 3) - 1))
    (l2 : (mem 159 3) ≠ 0 → Q ((mem 159 3) - 1) (q_up mem 159 3 ((mem 159 3) - 1)))
    (l3 : (mem 159 3) = 0 → Q (-1) mem) :
    q_At yX11_forget cX11_forget 1 (some .int) 1 0 0 (qK (q_rb b) Q) 0 [(2, 0)] [] (q_sh0, q_rb b, mem) := by
  refine q_aload_n dX11_forget_0 rfl rfl ?_
  refine q_getR (ci := 11) (k := 12) dX11_forget_1 rfl (by decide) rfl tw361 (by decide) qs0 qw0_12 (by decide) ?_
  refine qx_getI (ci := 5) (k := 3) (v := (mem 159 3)) dX11_forget_4 rfl rfl rfl tw313 rfl qs159 rfl ?_
  refine qx_if_ne (tgt := 12) dX11_forget_7 (by decide) (fun c1 => ?_) (fun c1 => ?_)
  · skip
    refine q_aload_n dX11_forget_12 rfl rfl ?_
    refine q_getR (ci := 11) (k := 12) dX11_forget_13 rfl (by decide) rfl tw361 (by decide) qs0 qw0_12 (by decide) ?_
    refine q_dup dX11_forget_16 (fun h => by cases h) ?_
    refine qx_getI (ci := 5) (k := 3) (v := (mem 159 3)) dX11_forget_17 rfl rfl rfl tw313 rfl qs159 rfl ?_
    refine qx_iconst dX11_forget_20 rfl rfl ?_
    refine qx_isub dX11_forget_21 (o1 c1) ?_
    refine q_putI (ci := 5) (k := 3) (kI := 3) (ty := .int) dX11_forget_22 rfl (by decide) rfl tw313 rfl rfl rfl (fun _ => ⟨rfl, rfl⟩) qs159 ?_
    refine q_aload_n dX11_forget_25 rfl rfl ?_
    refine q_getR (ci := 11) (k := 12) dX11_forget_26 rfl (by decide) rfl tw361 (by decide) qs0 qw0_12 (by decide) ?_
    refine qx_getI (ci := 5) (k := 3) (v := ((mem 159 3) - 1)) dX11_forget_29 rfl rfl rfl tw313 rfl qs159 q_up_s ?_
    exact q_iret dX11_forget_32 (qK_i (l2 c1))
  · skip
    refine qx_iconst dX11_forget_10 rfl rfl ?_
    exact q_iret dX11_forget_11 (qK_i (l3 c1))
theorem dX12_forget_0 : decode cX12_forget 0 = .ok (.aload_n 0, 1) := by decide +kernel
theorem dX12_forget_1 : decode cX12_forget 1 = .ok (.iconst 0, 1) := by decide +kernel
theorem dX12_forget_2 : decode cX12_forget 2 = .ok (.putfield 128, 3) := by decide +kernel
theorem dX12_forget_5 : decode cX12_forget 5 = .ok (.aload_n 0, 1) := by decide +kernel
theorem dX12_forget_6 : decode cX12_forget 6 = .ok (.getfield 372, 3) := by decide +kernel
theorem dX12_forget_9 : decode cX12_forget 9 = .ok (.ifCond .ne 5, 3) := by decide +kernel
theorem dX12_forget_12 : decode cX12_forget 12 = .ok (.iconst (-1), 1) := by decide +kernel
theorem dX12_forget_13 : decode cX12_forget 13 = .ok (.ireturn, 1) := by decide +kernel
theorem dX12_forget_14 : decode cX12_forget 14 = .ok (.aload_n 0, 1) := by decide +kernel
theorem dX12_forget_15 : decode cX12_forget 15 = .ok (.dup, 1) := by decide +kernel
theorem dX12_forget_16 : decode cX12_forget 16 = .ok (.getfield 372, 3) := by decide +kernel
theorem dX12_forget_19 : decode cX12_forget 19 = .ok (.iconst 1, 1) := by decide +kernel
theorem dX12_forget_20 : decode cX12_forget 20 = .ok (.isub, 1) := by decide +kernel
theorem dX12_forget_21 : decode cX12_forget 21 = .ok (.putfield 372, 3) := by decide +kernel
theorem dX12_forget_24 : decode cX12_forget 24 = .ok (.aload_n 0, 1) := by decide +kernel
theorem dX12_forget_25 : decode cX12_forget 25 = .ok (.getfield 372, 3) := by decide +kernel
theorem dX12_forget_28 : decode cX12_forget 28 = .ok (.ireturn, 1) := by decide +kernel
theorem bkX12_forget_0 {b : Int} {mem : qm} {Q : Int → qm → Prop}
    (o1 : (mem 188 49) ≠ 0 → q_in32 ((mem 188 49) - 1))
    (l2 : (mem 188 49) ≠ 0 → Q ((mem 188 49) - 1) (q_up (q_up mem 188 17 0) 188 49 ((mem 188 49) - 1)))
    (l3 : (mem 188 49) = 0 → Q (-1) (q_up mem 188 17 0)) :
    q_At yX12_forget cX12_forget 1 (some .int) 1 0 0 (qK (q_rb b) Q) 0 [(2, 188)] [] (q_sh0, q_rb b, mem) := by
  refine q_aload_n dX12_forget_0 rfl rfl ?_
  refine qx_iconst dX12_forget_1 rfl rfl ?_
  refine q_putI (ci := 12) (k := 17) (kI := 17) (ty := .int) dX12_forget_2 rfl (by decide) rfl tw1200 rfl rfl rfl (fun _ => ⟨rfl, rfl⟩) qs188 ?_
  refine q_aload_n dX12_forget_5 rfl rfl ?_
  refine qx_getI (ci := 12) (k := 49) (v := (mem 188 49)) dX12_forget_6 rfl rfl rfl tw1232 rfl qs188 (q_up_i (by decide)) ?_
  refine qx_if_ne (tgt := 14) dX12_forget_9 (by decide) (fun c1 => ?_) (fun c1 => ?_)
  · skip
    refine q_aload_n dX12_forget_14 rfl rfl ?_
    refine q_dup dX12_forget_15 (fun h => by cases h) ?_
    refine qx_getI (ci := 12) (k := 49) (v := (mem 188 49)) dX12_forget_16 rfl rfl rfl tw1232 rfl qs188 (q_up_i (by decide)) ?_
    refine qx_iconst dX12_forget_19 rfl rfl ?_
    refine qx_isub dX12_forget_20 (o1 c1) ?_
    refine q_putI (ci := 12) (k := 49) (kI := 49) (ty := .int) dX12_forget_21 rfl (by decide) rfl tw1232 rfl rfl rfl (fun _ => ⟨rfl, rfl⟩) qs188 ?_
    refine q_aload_n dX12_forget_24 rfl rfl ?_
    refine qx_getI (ci := 12) (k := 49) (v := ((mem 188 49) - 1)) dX12_forget_25 rfl rfl rfl tw1232 rfl qs188 q_up_s ?_
    exact q_iret dX12_forget_28 (qK_i (l2 c1))
  · skip
    refine qx_iconst dX12_forget_12 rfl rfl ?_
    exact q_iret dX12_forget_13 (qK_i (l3 c1))
theorem dX11_end_0 : decode cX11_end 0 = .ok (.iload_n 1, 1) := by decide +kernel
theorem dX11_end_1 : decode cX11_end 1 = .ok (.ifCond .lt 14, 3) := by decide +kernel
theorem dX11_end_4 : decode cX11_end 4 = .ok (.iload_n 1, 1) := by decide +kernel
theorem dX11_end_5 : decode cX11_end 5 = .ok (.aload_n 0, 1) := by decide +kernel
theorem dX11_end_6 : decode cX11_end 6 = .ok (.getfield 60, 3) := by decide +kernel
theorem dX11_end_9 : decode cX11_end 9 = .ok (.getfield 107, 3) := by decide +kernel
theorem dX11_end_12 : decode cX11_end 12 = .ok (.if_icmp .le 5, 3) := by decide +kernel
theorem dX11_end_15 : decode cX11_end 15 = .ok (.iconst 0, 1) := by decide +kernel
theorem dX11_end_16 : decode cX11_end 16 = .ok (.ireturn, 1) := by decide +kernel
theorem dX11_end_17 : decode cX11_end 17 = .ok (.aload_n 0, 1) := by decide +kernel
theorem dX11_end_18 : decode cX11_end 18 = .ok (.getfield 60, 3) := by decide +kernel
theorem dX11_end_21 : decode cX11_end 21 = .ok (.iload_n 1, 1) := by decide +kernel
theorem dX11_end_22 : decode cX11_end 22 = .ok (.putfield 107, 3) := by decide +kernel
theorem dX11_end_25 : decode cX11_end 25 = .ok (.iconst 1, 1) := by decide +kernel
theorem dX11_end_26 : decode cX11_end 26 = .ok (.ireturn, 1) := by decide +kernel
theorem bkX11_end_0 {b : Int} {mem : qm} {Q : Int → qm → Prop}
    {v : Int}
    (l1 : v < 0 → Q 0 mem)
    (l2 : 0 ≤ v → v ≤ (mem 145 1) → Q 1 (q_up mem 145 1 v))
    (l3 : 0 ≤ v → (mem 145 1) < v → Q 0 mem) :
    q_At yX11_end cX11_end 2 (some .boolean) 1 0 0 (qK (q_rb b) Q) 0 [(2, 0), (0, v)] [] (q_sh0, q_rb b, mem) := by
  refine q_iload_n dX11_end_0 rfl rfl ?_
  refine qx_if_lt (tgt := 15) dX11_end_1 (by decide) (fun c1 => ?_) (fun c1 => ?_)
  · skip
    refine qx_iconst dX11_end_15 rfl rfl ?_
    exact q_zret dX11_end_16 (by decide) (qK_i (l1 c1))
  · skip
    refine q_iload_n dX11_end_4 rfl rfl ?_
    refine q_aload_n dX11_end_5 rfl rfl ?_
    refine q_getR (ci := 11) (k := 8) dX11_end_6 rfl (by decide) rfl tw357 (by decide) qs0 qw0_8 (by decide) ?_
    refine qx_getI (ci := 6) (k := 1) (v := (mem 145 1)) dX11_end_9 rfl rfl rfl tw211 rfl qs145 rfl ?_
    refine qx_icmp_le (tgt := 17) dX11_end_12 (by decide) (fun c2 => ?_) (fun c2 => ?_)
    · skip
      refine q_aload_n dX11_end_17 rfl rfl ?_
      refine q_getR (ci := 11) (k := 8) dX11_end_18 rfl (by decide) rfl tw357 (by decide) qs0 qw0_8 (by decide) ?_
      refine q_iload_n dX11_end_21 rfl rfl ?_
      refine q_putI (ci := 6) (k := 1) (kI := 1) (ty := .int) dX11_end_22 rfl (by decide) rfl tw211 rfl rfl rfl (fun _ => ⟨rfl, rfl⟩) qs145 ?_
      refine qx_iconst dX11_end_25 rfl rfl ?_
      exact q_zret dX11_end_26 (by decide) (qK_i (l2 c1 c2))
    · skip
      refine qx_iconst dX11_end_15 rfl rfl ?_
      exact q_zret dX11_end_16 (by decide) (qK_i (l3 c1 c2))
theorem dX12_end_0 : decode cX12_end 0 = .ok (.aload_n 0, 1) := by decide +kernel
theorem dX12_end_1 : decode cX12_end 1 = .ok (.iconst 0, 1) := by decide +kernel
theorem dX12_end_2 : decode cX12_end 2 = .ok (.putfield 128, 3) := by decide +kernel
theorem dX12_end_5 : decode cX12_end 5 = .ok (.iload_n 1, 1) := by decide +kernel
theorem dX12_end_6 : decode cX12_end 6 = .ok (.iconst 0, 1) := by decide +kernel
theorem dX12_end_7 : decode cX12_end 7 = .ok (.aload_n 0, 1) := by decide +kernel
theorem dX12_end_8 : decode cX12_end 8 = .ok (.getfield 145, 3) := by decide +kernel
theorem dX12_end_11 : decode cX12_end 11 = .ok (.invokestatic 137, 3) := by decide +kernel
theorem dX12_end_14 : decode cX12_end 14 = .ok (.ifCond .ne 5, 3) := by decide +kernel
theorem dX12_end_17 : decode cX12_end 17 = .ok (.iconst 0, 1) := by decide +kernel
theorem dX12_end_18 : decode cX12_end 18 = .ok (.ireturn, 1) := by decide +kernel
theorem dX12_end_19 : decode cX12_end 19 = .ok (.aload_n 0, 1) := by decide +kernel
theorem dX12_end_20 : decode cX12_end 20 = .ok (.iload_n 1, 1) := by decide +kernel
theorem dX12_end_21 : decode cX12_end 21 = .ok (.putfield 145, 3) := by decide +kernel
theorem dX12_end_24 : decode cX12_end 24 = .ok (.iconst 1, 1) := by decide +kernel
theorem dX12_end_25 : decode cX12_end 25 = .ok (.ireturn, 1) := by decide +kernel
theorem bkX12_end_0 {b : Int} {mem : qm} {Q : Int → qm → Prop}
    {v : Int}
    (l1 : (0 ≤ v ∧ v ≤ (mem 188 14)) → Q 1 (q_up (q_up mem 188 17 0) 188 14 v))
    (l2 : ¬ (0 ≤ v ∧ v ≤ (mem 188 14)) → Q 0 (q_up mem 188 17 0)) :
    q_At yX12_end cX12_end 2 (some .boolean) 2 0 0 (qK (q_rb b) Q) 0 [(2, 188), (0, v)] [] (q_sh0, q_rb b, mem) := by
  refine q_aload_n dX12_end_0 rfl rfl ?_
  refine qx_iconst dX12_end_1 rfl rfl ?_
  refine q_putI (ci := 12) (k := 17) (kI := 17) (ty := .int) dX12_end_2 rfl (by decide) rfl tw1200 rfl rfl rfl (fun _ => ⟨rfl, rfl⟩) qs188 ?_
  refine q_iload_n dX12_end_5 rfl rfl ?_
  refine qx_iconst dX12_end_6 rfl rfl ?_
  refine q_aload_n dX12_end_7 rfl rfl ?_
  refine qx_getI (ci := 12) (k := 14) (v := (mem 188 14)) dX12_end_8 rfl rfl rfl tw1197 rfl qs188 (q_up_i (by decide)) ?_
  refine qx_invS [(0, v), (0, 0), (0, (mem 188 14))] [(0, (mem 188 14)), (0, 0), (0, v)] rfl qM_X12_in dX12_end_11 tw1362 rfl rfl rfl rfl (spX12_in) (fun r1 m1 p1 q1 => ?_)
  obtain ⟨p1e, ⟨p1f, p1⟩ | ⟨p1f, p1⟩⟩ := p1
  · rw [p1e, p1f]
    refine qx_if_ne (tgt := 19) dX12_end_14 (by decide) (fun _ => ?_) (fun z => absurd z (by decide))
    refine q_aload_n dX12_end_19 rfl rfl ?_
    refine q_iload_n dX12_end_20 rfl rfl ?_
    refine q_putI (ci := 12) (k := 14) (kI := 14) (ty := .int) dX12_end_21 rfl (by decide) rfl tw1197 rfl rfl rfl (fun _ => ⟨rfl, rfl⟩) qs188 ?_
    refine qx_iconst dX12_end_24 rfl rfl ?_
    exact q_zret dX12_end_25 (by decide) (qK_i (l1 p1))
  · rw [p1e, p1f]
    refine qx_if_ne (tgt := 19) dX12_end_14 (by decide) (fun z => absurd z (by decide)) (fun _ => ?_)
    refine qx_iconst dX12_end_17 rfl rfl ?_
    exact q_zret dX12_end_18 (by decide) (qK_i (l2 p1))
theorem dX12_drop_0 : decode cX12_drop 0 = .ok (.aload_n 0, 1) := by decide +kernel
theorem dX12_drop_1 : decode cX12_drop 1 = .ok (.iconst 0, 1) := by decide +kernel
theorem dX12_drop_2 : decode cX12_drop 2 = .ok (.putfield 128, 3) := by decide +kernel
theorem dX12_drop_5 : decode cX12_drop 5 = .ok (.aload_n 0, 1) := by decide +kernel
theorem dX12_drop_6 : decode cX12_drop 6 = .ok (.iload_n 1, 1) := by decide +kernel
theorem dX12_drop_7 : decode cX12_drop 7 = .ok (.invokevirtual 225, 3) := by decide +kernel
theorem dX12_drop_10 : decode cX12_drop 10 = .ok (.ifCond .eq 33, 3) := by decide +kernel
theorem dX12_drop_13 : decode cX12_drop 13 = .ok (.iload_n 2, 1) := by decide +kernel
theorem dX12_drop_14 : decode cX12_drop 14 = .ok (.iconst 0, 1) := by decide +kernel
theorem dX12_drop_15 : decode cX12_drop 15 = .ok (.aload_n 0, 1) := by decide +kernel
theorem dX12_drop_16 : decode cX12_drop 16 = .ok (.getfield 13, 3) := by decide +kernel
theorem dX12_drop_19 : decode cX12_drop 19 = .ok (.iload_n 1, 1) := by decide +kernel
theorem dX12_drop_20 : decode cX12_drop 20 = .ok (.iaload, 1) := by decide +kernel
theorem dX12_drop_21 : decode cX12_drop 21 = .ok (.iconst 1, 1) := by decide +kernel
theorem dX12_drop_22 : decode cX12_drop 22 = .ok (.isub, 1) := by decide +kernel
theorem dX12_drop_23 : decode cX12_drop 23 = .ok (.invokestatic 137, 3) := by decide +kernel
theorem dX12_drop_26 : decode cX12_drop 26 = .ok (.ifCond .eq 17, 3) := by decide +kernel
theorem dX12_drop_29 : decode cX12_drop 29 = .ok (.aload_n 0, 1) := by decide +kernel
theorem dX12_drop_30 : decode cX12_drop 30 = .ok (.getfield 31, 3) := by decide +kernel
theorem dX12_drop_33 : decode cX12_drop 33 = .ok (.bipush 60, 2) := by decide +kernel
theorem dX12_drop_35 : decode cX12_drop 35 = .ok (.iload_n 1, 1) := by decide +kernel
theorem dX12_drop_36 : decode cX12_drop 36 = .ok (.imul, 1) := by decide +kernel
theorem dX12_drop_37 : decode cX12_drop 37 = .ok (.iload_n 2, 1) := by decide +kernel
theorem dX12_drop_38 : decode cX12_drop 38 = .ok (.iadd, 1) := by decide +kernel
theorem dX12_drop_39 : decode cX12_drop 39 = .ok (.iaload, 1) := by decide +kernel
theorem dX12_drop_40 : decode cX12_drop 40 = .ok (.goto 4, 3) := by decide +kernel
theorem dX12_drop_43 : decode cX12_drop 43 = .ok (.iconst (-1), 1) := by decide +kernel
theorem dX12_drop_44 : decode cX12_drop 44 = .ok (.ireturn, 1) := by decide +kernel
theorem bkX12_drop_0 {b : Int} {mem : qm} {Q : Int → qm → Prop}
    {j v : Int}
    (o1 : q_in32 ((mem 188 0) - 1))
    (o2 : (0 ≤ j ∧ j ≤ (mem 188 0) - 1) → (0 ≤ j ∧ j < 9) ∧ q_in32 ((mem 190 j) - 1))
    (o3 : (0 ≤ j ∧ j ≤ (mem 188 0) - 1) → (0 ≤ v ∧ v ≤ ((mem 190 j) - 1)) → q_in32 (60 * j) ∧ q_in32 ((60 * j) + v) ∧ (0 ≤ ((60 * j) + v) ∧ ((60 * j) + v) < 540))
    (l4 : (0 ≤ j ∧ j ≤ (mem 188 0) - 1) → (0 ≤ v ∧ v ≤ ((mem 190 j) - 1)) → Q (mem 196 ((60 * j) + v)) (q_up mem 188 17 0))
    (l5 : (0 ≤ j ∧ j ≤ (mem 188 0) - 1) → ¬ (0 ≤ v ∧ v ≤ ((mem 190 j) - 1)) → Q (-1) (q_up mem 188 17 0))
    (l6 : ¬ (0 ≤ j ∧ j ≤ (mem 188 0) - 1) → Q (-1) (q_up mem 188 17 0)) :
    q_At yX12_drop cX12_drop 3 (some .int) 3 0 0 (qK (q_rb b) Q) 0 [(2, 188), (0, j), (0, v)] [] (q_sh0, q_rb b, mem) := by
  refine q_aload_n dX12_drop_0 rfl rfl ?_
  refine qx_iconst dX12_drop_1 rfl rfl ?_
  refine q_putI (ci := 12) (k := 17) (kI := 17) (ty := .int) dX12_drop_2 rfl (by decide) rfl tw1200 rfl rfl rfl (fun _ => ⟨rfl, rfl⟩) qs188 ?_
  refine q_aload_n dX12_drop_5 rfl rfl ?_
  refine q_iload_n dX12_drop_6 rfl rfl ?_
  refine qx_invV (ci := 12) [(0, j)] [(0, j), (2, 188)] rfl qM_X12_isJar dX12_drop_7 tw1433 rfl qs188 rfl rfl rfl rfl (spX12_isJar (by first | exact (o1) | (simp only [q_up, Int.reduceEq, false_and, true_and, and_true, and_false, ite_false, ite_true, if_true, if_false]; exact (o1)))) (fun r1 m1 p1 q1 => ?_)
  obtain ⟨p1e, ⟨p1f, p1⟩ | ⟨p1f, p1⟩⟩ := p1
  · rw [p1e, p1f]
    simp only [q_up, Int.reduceEq, false_and, true_and, and_true, and_false, ite_false, ite_true, if_true, if_false] at p1
    refine qx_if_eq (tgt := 43) dX12_drop_10 (by decide) (fun z => absurd z (by decide)) (fun _ => ?_)
    refine q_iload_n dX12_drop_13 rfl rfl ?_
    refine qx_iconst dX12_drop_14 rfl rfl ?_
    refine q_aload_n dX12_drop_15 rfl rfl ?_
    refine q_getR (ci := 12) (k := 2) dX12_drop_16 rfl (by decide) rfl tw1185 (by decide) qs188 qw188_2 (by decide) ?_
    refine q_iload_n dX12_drop_19 rfl rfl ?_
    refine qx_iald (v := (mem 190 j)) dX12_drop_20 qs190 (o2 p1).1 (q_up_c (by decide)) ?_
    refine qx_iconst dX12_drop_21 rfl rfl ?_
    refine qx_isub dX12_drop_22 (o2 p1).2 ?_
    refine qx_invS [(0, v), (0, 0), (0, ((mem 190 j) - 1))] [(0, ((mem 190 j) - 1)), (0, 0), (0, v)] rfl qM_X12_in dX12_drop_23 tw1362 rfl rfl rfl rfl (spX12_in) (fun r2 m2 p2 q2 => ?_)
    obtain ⟨p2e, ⟨p2f, p2⟩ | ⟨p2f, p2⟩⟩ := p2
    · rw [p2e, p2f]
      refine qx_if_eq (tgt := 43) dX12_drop_26 (by decide) (fun z => absurd z (by decide)) (fun _ => ?_)
      refine q_aload_n dX12_drop_29 rfl rfl ?_
      refine q_getR (ci := 12) (k := 8) dX12_drop_30 rfl (by decide) rfl tw1191 (by decide) qs188 qw188_8 (by decide) ?_
      refine qx_bipush dX12_drop_33 rfl rfl ?_
      refine q_iload_n dX12_drop_35 rfl rfl ?_
      refine qx_imul dX12_drop_36 (o3 p1 p2).1 ?_
      refine q_iload_n dX12_drop_37 rfl rfl ?_
      refine qx_iadd dX12_drop_38 (o3 p1 p2).2.1 ?_
      refine qx_iald (v := (mem 196 ((60 * j) + v))) dX12_drop_39 qs196 (o3 p1 p2).2.2 (q_up_c (by decide)) ?_
      refine q_goto (tgt := 44) dX12_drop_40 (by decide) ?_
      exact q_iret dX12_drop_44 (qK_i (l4 p1 p2))
    · rw [p2e, p2f]
      refine qx_if_eq (tgt := 43) dX12_drop_26 (by decide) (fun _ => ?_) (fun z => absurd z (by decide))
      refine qx_iconst dX12_drop_43 rfl rfl ?_
      exact q_iret dX12_drop_44 (qK_i (l5 p1 p2))
  · rw [p1e, p1f]
    simp only [q_up, Int.reduceEq, false_and, true_and, and_true, and_false, ite_false, ite_true, if_true, if_false] at p1
    refine qx_if_eq (tgt := 43) dX12_drop_10 (by decide) (fun _ => ?_) (fun z => absurd z (by decide))
    refine qx_iconst dX12_drop_43 rfl rfl ?_
    exact q_iret dX12_drop_44 (qK_i (l6 p1))
theorem dX12_seen_0 : decode cX12_seen 0 = .ok (.aload_n 0, 1) := by decide +kernel
theorem dX12_seen_1 : decode cX12_seen 1 = .ok (.iconst 0, 1) := by decide +kernel
theorem dX12_seen_2 : decode cX12_seen 2 = .ok (.putfield 128, 3) := by decide +kernel
theorem dX12_seen_5 : decode cX12_seen 5 = .ok (.aload_n 0, 1) := by decide +kernel
theorem dX12_seen_6 : decode cX12_seen 6 = .ok (.iload_n 1, 1) := by decide +kernel
theorem dX12_seen_7 : decode cX12_seen 7 = .ok (.invokevirtual 225, 3) := by decide +kernel
theorem dX12_seen_10 : decode cX12_seen 10 = .ok (.ifCond .eq 29, 3) := by decide +kernel
theorem dX12_seen_13 : decode cX12_seen 13 = .ok (.iload_n 2, 1) := by decide +kernel
theorem dX12_seen_14 : decode cX12_seen 14 = .ok (.invokestatic 270, 3) := by decide +kernel
theorem dX12_seen_17 : decode cX12_seen 17 = .ok (.ifCond .eq 22, 3) := by decide +kernel
theorem dX12_seen_20 : decode cX12_seen 20 = .ok (.iload_n 3, 1) := by decide +kernel
theorem dX12_seen_21 : decode cX12_seen 21 = .ok (.iconst 0, 1) := by decide +kernel
theorem dX12_seen_22 : decode cX12_seen 22 = .ok (.bipush 60, 2) := by decide +kernel
theorem dX12_seen_24 : decode cX12_seen 24 = .ok (.invokestatic 137, 3) := by decide +kernel
theorem dX12_seen_27 : decode cX12_seen 27 = .ok (.ifCond .eq 12, 3) := by decide +kernel
theorem dX12_seen_30 : decode cX12_seen 30 = .ok (.aload_n 0, 1) := by decide +kernel
theorem dX12_seen_31 : decode cX12_seen 31 = .ok (.getfield 372, 3) := by decide +kernel
theorem dX12_seen_34 : decode cX12_seen 34 = .ok (.bipush 10, 2) := by decide +kernel
theorem dX12_seen_36 : decode cX12_seen 36 = .ok (.if_icmp .ne 5, 3) := by decide +kernel
theorem dX12_seen_39 : decode cX12_seen 39 = .ok (.iconst (-1), 1) := by decide +kernel
theorem dX12_seen_40 : decode cX12_seen 40 = .ok (.ireturn, 1) := by decide +kernel
theorem dX12_seen_41 : decode cX12_seen 41 = .ok (.aload_n 0, 1) := by decide +kernel
theorem dX12_seen_42 : decode cX12_seen 42 = .ok (.getfield 112, 3) := by decide +kernel
theorem dX12_seen_45 : decode cX12_seen 45 = .ok (.iconst 3, 1) := by decide +kernel
theorem dX12_seen_46 : decode cX12_seen 46 = .ok (.aload_n 0, 1) := by decide +kernel
theorem dX12_seen_47 : decode cX12_seen 47 = .ok (.getfield 372, 3) := by decide +kernel
theorem dX12_seen_50 : decode cX12_seen 50 = .ok (.imul, 1) := by decide +kernel
theorem dX12_seen_51 : decode cX12_seen 51 = .ok (.iload_n 1, 1) := by decide +kernel
theorem dX12_seen_52 : decode cX12_seen 52 = .ok (.iastore, 1) := by decide +kernel
theorem dX12_seen_53 : decode cX12_seen 53 = .ok (.aload_n 0, 1) := by decide +kernel
theorem dX12_seen_54 : decode cX12_seen 54 = .ok (.getfield 112, 3) := by decide +kernel
theorem dX12_seen_57 : decode cX12_seen 57 = .ok (.iconst 3, 1) := by decide +kernel
theorem dX12_seen_58 : decode cX12_seen 58 = .ok (.aload_n 0, 1) := by decide +kernel
theorem dX12_seen_59 : decode cX12_seen 59 = .ok (.getfield 372, 3) := by decide +kernel
theorem dX12_seen_62 : decode cX12_seen 62 = .ok (.imul, 1) := by decide +kernel
theorem dX12_seen_63 : decode cX12_seen 63 = .ok (.iconst 1, 1) := by decide +kernel
theorem dX12_seen_64 : decode cX12_seen 64 = .ok (.iadd, 1) := by decide +kernel
theorem dX12_seen_65 : decode cX12_seen 65 = .ok (.iload_n 2, 1) := by decide +kernel
theorem dX12_seen_66 : decode cX12_seen 66 = .ok (.iastore, 1) := by decide +kernel
theorem dX12_seen_67 : decode cX12_seen 67 = .ok (.aload_n 0, 1) := by decide +kernel
theorem dX12_seen_68 : decode cX12_seen 68 = .ok (.getfield 112, 3) := by decide +kernel
theorem dX12_seen_71 : decode cX12_seen 71 = .ok (.iconst 3, 1) := by decide +kernel
theorem dX12_seen_72 : decode cX12_seen 72 = .ok (.aload_n 0, 1) := by decide +kernel
theorem dX12_seen_73 : decode cX12_seen 73 = .ok (.getfield 372, 3) := by decide +kernel
theorem dX12_seen_76 : decode cX12_seen 76 = .ok (.imul, 1) := by decide +kernel
theorem dX12_seen_77 : decode cX12_seen 77 = .ok (.iconst 2, 1) := by decide +kernel
theorem dX12_seen_78 : decode cX12_seen 78 = .ok (.iadd, 1) := by decide +kernel
theorem dX12_seen_79 : decode cX12_seen 79 = .ok (.iload_n 3, 1) := by decide +kernel
theorem dX12_seen_80 : decode cX12_seen 80 = .ok (.iastore, 1) := by decide +kernel
theorem dX12_seen_81 : decode cX12_seen 81 = .ok (.aload_n 0, 1) := by decide +kernel
theorem dX12_seen_82 : decode cX12_seen 82 = .ok (.dup, 1) := by decide +kernel
theorem dX12_seen_83 : decode cX12_seen 83 = .ok (.getfield 372, 3) := by decide +kernel
theorem dX12_seen_86 : decode cX12_seen 86 = .ok (.iconst 1, 1) := by decide +kernel
theorem dX12_seen_87 : decode cX12_seen 87 = .ok (.iadd, 1) := by decide +kernel
theorem dX12_seen_88 : decode cX12_seen 88 = .ok (.putfield 372, 3) := by decide +kernel
theorem dX12_seen_91 : decode cX12_seen 91 = .ok (.aload_n 0, 1) := by decide +kernel
theorem dX12_seen_92 : decode cX12_seen 92 = .ok (.getfield 372, 3) := by decide +kernel
theorem dX12_seen_95 : decode cX12_seen 95 = .ok (.ireturn, 1) := by decide +kernel
theorem bkX12_seen_0 {b : Int} {mem : qm} {Q : Int → qm → Prop}
    {j v w : Int}
    (o1 : q_in32 ((mem 188 0) - 1))
    (o2 : (0 ≤ j ∧ j ≤ (mem 188 0) - 1) → (0 ≤ v ∧ v ≤ 200) → (0 ≤ w ∧ w ≤ 60) → (mem 188 49) ≠ 10 → q_in32 (3 * (mem 188 49)) ∧ (0 ≤ (3 * (mem 188 49)) ∧ (3 * (mem 188 49)) < 30) ∧ q_in32 ((3 * (mem 188 49)) + 1) ∧ (0 ≤ ((3 * (mem 188 49)) + 1) ∧ ((3 * (mem 188 49)) + 1) < 30) ∧ q_in32 ((3 * (mem 188 49)) + 2) ∧ (0 ≤ ((3 * (mem 188 49)) + 2) ∧ ((3 * (mem 188 49)) + 2) < 30) ∧ q_in32 ((mem 188 49) + 1))
    (l3 : (0 ≤ j ∧ j ≤ (mem 188 0) - 1) → (0 ≤ v ∧ v ≤ 200) → (0 ≤ w ∧ w ≤ 60) → (mem 188 49) ≠ 10 → Q ((mem 188 49) + 1) (q_up (q_up (q_up (q_up (q_up mem 188 17 0) 220 (3 * (mem 188 49)) j) 220 ((3 * (mem 188 49)) + 1) v) 220 ((3 * (mem 188 49)) + 2) w) 188 49 ((mem 188 49) + 1)))
    (l4 : (0 ≤ j ∧ j ≤ (mem 188 0) - 1) → (0 ≤ v ∧ v ≤ 200) → (0 ≤ w ∧ w ≤ 60) → (mem 188 49) = 10 → Q (-1) (q_up mem 188 17 0))
    (l5 : (0 ≤ j ∧ j ≤ (mem 188 0) - 1) → (0 ≤ v ∧ v ≤ 200) → ¬ (0 ≤ w ∧ w ≤ 60) → Q (-1) (q_up mem 188 17 0))
    (l6 : (0 ≤ j ∧ j ≤ (mem 188 0) - 1) → ¬ (0 ≤ v ∧ v ≤ 200) → Q (-1) (q_up mem 188 17 0))
    (l7 : ¬ (0 ≤ j ∧ j ≤ (mem 188 0) - 1) → Q (-1) (q_up mem 188 17 0)) :
    q_At yX12_seen cX12_seen 4 (some .int) 3 0 0 (qK (q_rb b) Q) 0 [(2, 188), (0, j), (0, v), (0, w)] [] (q_sh0, q_rb b, mem) := by
  refine q_aload_n dX12_seen_0 rfl rfl ?_
  refine qx_iconst dX12_seen_1 rfl rfl ?_
  refine q_putI (ci := 12) (k := 17) (kI := 17) (ty := .int) dX12_seen_2 rfl (by decide) rfl tw1200 rfl rfl rfl (fun _ => ⟨rfl, rfl⟩) qs188 ?_
  refine q_aload_n dX12_seen_5 rfl rfl ?_
  refine q_iload_n dX12_seen_6 rfl rfl ?_
  refine qx_invV (ci := 12) [(0, j)] [(0, j), (2, 188)] rfl qM_X12_isJar dX12_seen_7 tw1433 rfl qs188 rfl rfl rfl rfl (spX12_isJar (by first | exact (o1) | (simp only [q_up, Int.reduceEq, false_and, true_and, and_true, and_false, ite_false, ite_true, if_true, if_false]; exact (o1)))) (fun r1 m1 p1 q1 => ?_)
  obtain ⟨p1e, ⟨p1f, p1⟩ | ⟨p1f, p1⟩⟩ := p1
  · rw [p1e, p1f]
    simp only [q_up, Int.reduceEq, false_and, true_and, and_true, and_false, ite_false, ite_true, if_true, if_false] at p1
    refine qx_if_eq (tgt := 39) dX12_seen_10 (by decide) (fun z => absurd z (by decide)) (fun _ => ?_)
    refine q_iload_n dX12_seen_13 rfl rfl ?_
    refine qx_invS [(0, v)] [(0, v)] rfl qM_X12_isAhead dX12_seen_14 tw1502 rfl rfl rfl rfl (spX12_isAhead) (fun r2 m2 p2 q2 => ?_)
    obtain ⟨p2e, ⟨p2f, p2⟩ | ⟨p2f, p2⟩⟩ := p2
    · rw [p2e, p2f]
      refine qx_if_eq (tgt := 39) dX12_seen_17 (by decide) (fun z => absurd z (by decide)) (fun _ => ?_)
      refine q_iload_n dX12_seen_20 rfl rfl ?_
      refine qx_iconst dX12_seen_21 rfl rfl ?_
      refine qx_bipush dX12_seen_22 rfl rfl ?_
      refine qx_invS [(0, w), (0, 0), (0, 60)] [(0, 60), (0, 0), (0, w)] rfl qM_X12_in dX12_seen_24 tw1362 rfl rfl rfl rfl (spX12_in) (fun r3 m3 p3 q3 => ?_)
      obtain ⟨p3e, ⟨p3f, p3⟩ | ⟨p3f, p3⟩⟩ := p3
      · rw [p3e, p3f]
        refine qx_if_eq (tgt := 39) dX12_seen_27 (by decide) (fun z => absurd z (by decide)) (fun _ => ?_)
        refine q_aload_n dX12_seen_30 rfl rfl ?_
        refine qx_getI (ci := 12) (k := 49) (v := (mem 188 49)) dX12_seen_31 rfl rfl rfl tw1232 rfl qs188 (q_up_i (by decide)) ?_
        refine qx_bipush dX12_seen_34 rfl rfl ?_
        refine qx_icmp_ne (tgt := 41) dX12_seen_36 (by decide) (fun c4 => ?_) (fun c4 => ?_)
        · skip
          refine q_aload_n dX12_seen_41 rfl rfl ?_
          refine q_getR (ci := 12) (k := 48) dX12_seen_42 rfl (by decide) rfl tw1231 (by decide) qs188 qw188_48 (by decide) ?_
          refine qx_iconst dX12_seen_45 rfl rfl ?_
          refine q_aload_n dX12_seen_46 rfl rfl ?_
          refine qx_getI (ci := 12) (k := 49) (v := (mem 188 49)) dX12_seen_47 rfl rfl rfl tw1232 rfl qs188 (q_up_i (by decide)) ?_
          refine qx_imul dX12_seen_50 (o2 p1 p2 p3 c4).1 ?_
          refine q_iload_n dX12_seen_51 rfl rfl ?_
          refine q_iast dX12_seen_52 qs220 ((o2 p1 p2 p3 c4).2.1).1 ((o2 p1 p2 p3 c4).2.1).2 ?_
          refine q_aload_n dX12_seen_53 rfl rfl ?_
          refine q_getR (ci := 12) (k := 48) dX12_seen_54 rfl (by decide) rfl tw1231 (by decide) qs188 qw188_48 (by decide) ?_
          refine qx_iconst dX12_seen_57 rfl rfl ?_
          refine q_aload_n dX12_seen_58 rfl rfl ?_
          refine qx_getI (ci := 12) (k := 49) (v := (mem 188 49)) dX12_seen_59 rfl rfl rfl tw1232 rfl qs188 ((q_up_c (by decide)).trans (q_up_i (by decide))) ?_
          refine qx_imul dX12_seen_62 (o2 p1 p2 p3 c4).1 ?_
          refine qx_iconst dX12_seen_63 rfl rfl ?_
          refine qx_iadd dX12_seen_64 (o2 p1 p2 p3 c4).2.2.1 ?_
          refine q_iload_n dX12_seen_65 rfl rfl ?_
          refine q_iast dX12_seen_66 qs220 ((o2 p1 p2 p3 c4).2.2.2.1).1 ((o2 p1 p2 p3 c4).2.2.2.1).2 ?_
          refine q_aload_n dX12_seen_67 rfl rfl ?_
          refine q_getR (ci := 12) (k := 48) dX12_seen_68 rfl (by decide) rfl tw1231 (by decide) qs188 qw188_48 (by decide) ?_
          refine qx_iconst dX12_seen_71 rfl rfl ?_
          refine q_aload_n dX12_seen_72 rfl rfl ?_
          refine qx_getI (ci := 12) (k := 49) (v := (mem 188 49)) dX12_seen_73 rfl rfl rfl tw1232 rfl qs188 ((q_up_c (by decide)).trans ((q_up_c (by decide)).trans (q_up_i (by decide)))) ?_
          refine qx_imul dX12_seen_76 (o2 p1 p2 p3 c4).1 ?_
          refine qx_iconst dX12_seen_77 rfl rfl ?_
          refine qx_iadd dX12_seen_78 (o2 p1 p2 p3 c4).2.2.2.2.1 ?_
          refine q_iload_n dX12_seen_79 rfl rfl ?_
          refine q_iast dX12_seen_80 qs220 ((o2 p1 p2 p3 c4).2.2.2.2.2.1).1 ((o2 p1 p2 p3 c4).2.2.2.2.2.1).2 ?_
          refine q_aload_n dX12_seen_81 rfl rfl ?_
          refine q_dup dX12_seen_82 (fun h => by cases h) ?_
          refine qx_getI (ci := 12) (k := 49) (v := (mem 188 49)) dX12_seen_83 rfl rfl rfl tw1232 rfl qs188 ((q_up_c (by decide)).trans ((q_up_c (by decide)).trans ((q_up_c (by decide)).trans (q_up_i (by decide))))) ?_
          refine qx_iconst dX12_seen_86 rfl rfl ?_
          refine qx_iadd dX12_seen_87 (o2 p1 p2 p3 c4).2.2.2.2.2.2 ?_
          refine q_putI (ci := 12) (k := 49) (kI := 49) (ty := .int) dX12_seen_88 rfl (by decide) rfl tw1232 rfl rfl rfl (fun _ => ⟨rfl, rfl⟩) qs188 ?_
          refine q_aload_n dX12_seen_91 rfl rfl ?_
          refine qx_getI (ci := 12) (k := 49) (v := ((mem 188 49) + 1)) dX12_seen_92 rfl rfl rfl tw1232 rfl qs188 q_up_s ?_
          exact q_iret dX12_seen_95 (qK_i (l3 p1 p2 p3 c4))
        · skip
          refine qx_iconst dX12_seen_39 rfl rfl ?_
          exact q_iret dX12_seen_40 (qK_i (l4 p1 p2 p3 c4))
      · rw [p3e, p3f]
        refine qx_if_eq (tgt := 39) dX12_seen_27 (by decide) (fun _ => ?_) (fun z => absurd z (by decide))
        refine qx_iconst dX12_seen_39 rfl rfl ?_
        exact q_iret dX12_seen_40 (qK_i (l5 p1 p2 p3))
    · rw [p2e, p2f]
      refine qx_if_eq (tgt := 39) dX12_seen_17 (by decide) (fun _ => ?_) (fun z => absurd z (by decide))
      refine qx_iconst dX12_seen_39 rfl rfl ?_
      exact q_iret dX12_seen_40 (qK_i (l6 p1 p2))
  · rw [p1e, p1f]
    simp only [q_up, Int.reduceEq, false_and, true_and, and_true, and_false, ite_false, ite_true, if_true, if_false] at p1
    refine qx_if_eq (tgt := 39) dX12_seen_10 (by decide) (fun _ => ?_) (fun z => absurd z (by decide))
    refine qx_iconst dX12_seen_39 rfl rfl ?_
    exact q_iret dX12_seen_40 (qK_i (l7 p1))
theorem dX5_add_0 : decode cX5_add 0 = .ok (.aload_n 0, 1) := by decide +kernel
theorem dX5_add_1 : decode cX5_add 1 = .ok (.getfield 21, 3) := by decide +kernel
theorem dX5_add_4 : decode cX5_add 4 = .ok (.bipush 10, 2) := by decide +kernel
theorem dX5_add_6 : decode cX5_add 6 = .ok (.if_icmp .ge 43, 3) := by decide +kernel
theorem dX5_add_9 : decode cX5_add 9 = .ok (.aload_n 0, 1) := by decide +kernel
theorem dX5_add_10 : decode cX5_add 10 = .ok (.getfield 9, 3) := by decide +kernel
theorem dX5_add_13 : decode cX5_add 13 = .ok (.aload_n 0, 1) := by decide +kernel
theorem dX5_add_14 : decode cX5_add 14 = .ok (.getfield 21, 3) := by decide +kernel
theorem dX5_add_17 : decode cX5_add 17 = .ok (.iload_n 1, 1) := by decide +kernel
theorem dX5_add_18 : decode cX5_add 18 = .ok (.iastore, 1) := by decide +kernel
theorem dX5_add_19 : decode cX5_add 19 = .ok (.aload_n 0, 1) := by decide +kernel
theorem dX5_add_20 : decode cX5_add 20 = .ok (.getfield 15, 3) := by decide +kernel
theorem dX5_add_23 : decode cX5_add 23 = .ok (.aload_n 0, 1) := by decide +kernel
theorem dX5_add_24 : decode cX5_add 24 = .ok (.getfield 21, 3) := by decide +kernel
theorem dX5_add_27 : decode cX5_add 27 = .ok (.iload_n 2, 1) := by decide +kernel
theorem dX5_add_28 : decode cX5_add 28 = .ok (.iastore, 1) := by decide +kernel
theorem dX5_add_29 : decode cX5_add 29 = .ok (.aload_n 0, 1) := by decide +kernel
theorem dX5_add_30 : decode cX5_add 30 = .ok (.getfield 18, 3) := by decide +kernel
theorem dX5_add_33 : decode cX5_add 33 = .ok (.aload_n 0, 1) := by decide +kernel
theorem dX5_add_34 : decode cX5_add 34 = .ok (.getfield 21, 3) := by decide +kernel
theorem dX5_add_37 : decode cX5_add 37 = .ok (.iload_n 3, 1) := by decide +kernel
theorem dX5_add_38 : decode cX5_add 38 = .ok (.iastore, 1) := by decide +kernel
theorem dX5_add_39 : decode cX5_add 39 = .ok (.aload_n 0, 1) := by decide +kernel
theorem dX5_add_40 : decode cX5_add 40 = .ok (.dup, 1) := by decide +kernel
theorem dX5_add_41 : decode cX5_add 41 = .ok (.getfield 21, 3) := by decide +kernel
theorem dX5_add_44 : decode cX5_add 44 = .ok (.iconst 1, 1) := by decide +kernel
theorem dX5_add_45 : decode cX5_add 45 = .ok (.iadd, 1) := by decide +kernel
theorem dX5_add_46 : decode cX5_add 46 = .ok (.putfield 21, 3) := by decide +kernel
theorem dX5_add_49 : decode cX5_add 49 = .ok (.return_, 1) := by decide +kernel
theorem bkX5_add_0 {b : Int} {mem : qm} {Q : Int → qm → Prop}
    {j v w : Int}
    (l1 : 10 ≤ (mem 159 3) → Q 0 mem)
    (o2 : (mem 159 3) < 10 → (0 ≤ (mem 159 3) ∧ (mem 159 3) < 10) ∧ q_in32 ((mem 159 3) + 1))
    (l3 : (mem 159 3) < 10 → Q 0 (q_up (q_up (q_up (q_up mem 160 (mem 159 3) j) 161 (mem 159 3) v) 162 (mem 159 3) w) 159 3 ((mem 159 3) + 1))) :
    q_At yX5_add cX5_add 4 none 1 0 0 (qK (q_rb b) Q) 0 [(2, 159), (0, j), (0, v), (0, w)] [] (q_sh0, q_rb b, mem) := by
  refine q_aload_n dX5_add_0 rfl rfl ?_
  refine qx_getI (ci := 5) (k := 3) (v := (mem 159 3)) dX5_add_1 rfl rfl rfl tw312 rfl qs159 rfl ?_
  refine qx_bipush dX5_add_4 rfl rfl ?_
  refine qx_icmp_ge (tgt := 49) dX5_add_6 (by decide) (fun c1 => ?_) (fun c1 => ?_)
  · skip
    exact q_vret dX5_add_49 (qK_i (l1 c1))
  · skip
    refine q_aload_n dX5_add_9 rfl rfl ?_
    refine q_getR (ci := 5) (k := 0) dX5_add_10 rfl (by decide) rfl tw309 (by decide) qs159 qw159_0 (by decide) ?_
    refine q_aload_n dX5_add_13 rfl rfl ?_
    refine qx_getI (ci := 5) (k := 3) (v := (mem 159 3)) dX5_add_14 rfl rfl rfl tw312 rfl qs159 rfl ?_
    refine q_iload_n dX5_add_17 rfl rfl ?_
    refine q_iast dX5_add_18 qs160 ((o2 c1).1).1 ((o2 c1).1).2 ?_
    refine q_aload_n dX5_add_19 rfl rfl ?_
    refine q_getR (ci := 5) (k := 1) dX5_add_20 rfl (by decide) rfl tw310 (by decide) qs159 qw159_1 (by decide) ?_
    refine q_aload_n dX5_add_23 rfl rfl ?_
    refine qx_getI (ci := 5) (k := 3) (v := (mem 159 3)) dX5_add_24 rfl rfl rfl tw312 rfl qs159 (q_up_c (by decide)) ?_
    refine q_iload_n dX5_add_27 rfl rfl ?_
    refine q_iast dX5_add_28 qs161 ((o2 c1).1).1 ((o2 c1).1).2 ?_
    refine q_aload_n dX5_add_29 rfl rfl ?_
    refine q_getR (ci := 5) (k := 2) dX5_add_30 rfl (by decide) rfl tw311 (by decide) qs159 qw159_2 (by decide) ?_
    refine q_aload_n dX5_add_33 rfl rfl ?_
    refine qx_getI (ci := 5) (k := 3) (v := (mem 159 3)) dX5_add_34 rfl rfl rfl tw312 rfl qs159 ((q_up_c (by decide)).trans (q_up_c (by decide))) ?_
    refine q_iload_n dX5_add_37 rfl rfl ?_
    refine q_iast dX5_add_38 qs162 ((o2 c1).1).1 ((o2 c1).1).2 ?_
    refine q_aload_n dX5_add_39 rfl rfl ?_
    refine q_dup dX5_add_40 (fun h => by cases h) ?_
    refine qx_getI (ci := 5) (k := 3) (v := (mem 159 3)) dX5_add_41 rfl rfl rfl tw312 rfl qs159 ((q_up_c (by decide)).trans ((q_up_c (by decide)).trans (q_up_c (by decide)))) ?_
    refine qx_iconst dX5_add_44 rfl rfl ?_
    refine qx_iadd dX5_add_45 (o2 c1).2 ?_
    refine q_putI (ci := 5) (k := 3) (kI := 3) (ty := .int) dX5_add_46 rfl (by decide) rfl tw312 rfl rfl rfl (fun _ => ⟨rfl, rfl⟩) qs159 ?_
    exact q_vret dX5_add_49 (qK_i (l3 c1))
theorem dX11_seen_0 : decode cX11_seen 0 = .ok (.aload_n 0, 1) := by decide +kernel
theorem dX11_seen_1 : decode cX11_seen 1 = .ok (.iload_n 1, 1) := by decide +kernel
theorem dX11_seen_2 : decode cX11_seen 2 = .ok (.invokevirtual 131, 3) := by decide +kernel
theorem dX11_seen_5 : decode cX11_seen 5 = .ok (.ifCond .eq 29, 3) := by decide +kernel
theorem dX11_seen_8 : decode cX11_seen 8 = .ok (.iload_n 2, 1) := by decide +kernel
theorem dX11_seen_9 : decode cX11_seen 9 = .ok (.invokestatic 214, 3) := by decide +kernel
theorem dX11_seen_12 : decode cX11_seen 12 = .ok (.ifCond .eq 22, 3) := by decide +kernel
theorem dX11_seen_15 : decode cX11_seen 15 = .ok (.iload_n 3, 1) := by decide +kernel
theorem dX11_seen_16 : decode cX11_seen 16 = .ok (.invokestatic 306, 3) := by decide +kernel
theorem dX11_seen_19 : decode cX11_seen 19 = .ok (.ifCond .eq 15, 3) := by decide +kernel
theorem dX11_seen_22 : decode cX11_seen 22 = .ok (.aload_n 0, 1) := by decide +kernel
theorem dX11_seen_23 : decode cX11_seen 23 = .ok (.getfield 90, 3) := by decide +kernel
theorem dX11_seen_26 : decode cX11_seen 26 = .ok (.getfield 379, 3) := by decide +kernel
theorem dX11_seen_29 : decode cX11_seen 29 = .ok (.bipush 10, 2) := by decide +kernel
theorem dX11_seen_31 : decode cX11_seen 31 = .ok (.if_icmp .lt 5, 3) := by decide +kernel
theorem dX11_seen_34 : decode cX11_seen 34 = .ok (.iconst (-1), 1) := by decide +kernel
theorem dX11_seen_35 : decode cX11_seen 35 = .ok (.ireturn, 1) := by decide +kernel
theorem dX11_seen_36 : decode cX11_seen 36 = .ok (.aload_n 0, 1) := by decide +kernel
theorem dX11_seen_37 : decode cX11_seen 37 = .ok (.getfield 90, 3) := by decide +kernel
theorem dX11_seen_40 : decode cX11_seen 40 = .ok (.iload_n 1, 1) := by decide +kernel
theorem dX11_seen_41 : decode cX11_seen 41 = .ok (.iload_n 2, 1) := by decide +kernel
theorem dX11_seen_42 : decode cX11_seen 42 = .ok (.iload_n 3, 1) := by decide +kernel
theorem dX11_seen_43 : decode cX11_seen 43 = .ok (.invokevirtual 380, 3) := by decide +kernel
theorem dX11_seen_46 : decode cX11_seen 46 = .ok (.aload_n 0, 1) := by decide +kernel
theorem dX11_seen_47 : decode cX11_seen 47 = .ok (.getfield 90, 3) := by decide +kernel
theorem dX11_seen_50 : decode cX11_seen 50 = .ok (.getfield 379, 3) := by decide +kernel
theorem dX11_seen_53 : decode cX11_seen 53 = .ok (.ireturn, 1) := by decide +kernel
theorem bkX11_seen_0 {b : Int} {mem : qm} {Q : Int → qm → Prop}
    {j v w : Int}
    {P5 : Int → qm → Prop}
    (l1 : (0 ≤ j ∧ j < (mem 1 3)) → (0 ≤ v ∧ v ≤ 200) → (0 ≤ w ∧ w ≤ 60) → (mem 159 3) < 10 → q_Ev yX5_add cX5_add 4 none 1 0 0 [(2, 159), (0, j), (0, v), (0, w)] (q_sh0, q_rb b, mem) (qK (q_rb b) (P5)))
    (l2 : (0 ≤ j ∧ j < (mem 1 3)) → (0 ≤ v ∧ v ≤ 200) → (0 ≤ w ∧ w ≤ 60) → (mem 159 3) < 10 → ∀ (r5 : Int), ∀ (m5 : qm), P5 r5 m5 → q_in32 r5 → Q (m5 159 3) m5)
    (l3 : (0 ≤ j ∧ j < (mem 1 3)) → (0 ≤ v ∧ v ≤ 200) → (0 ≤ w ∧ w ≤ 60) → 10 ≤ (mem 159 3) → Q (-1) mem)
    (l4 : (0 ≤ j ∧ j < (mem 1 3)) → (0 ≤ v ∧ v ≤ 200) → ¬ (0 ≤ w ∧ w ≤ 60) → Q (-1) mem)
    (l5 : (0 ≤ j ∧ j < (mem 1 3)) → ¬ (0 ≤ v ∧ v ≤ 200) → Q (-1) mem)
    (l6 : ¬ (0 ≤ j ∧ j < (mem 1 3)) → Q (-1) mem) :
    q_At yX11_seen cX11_seen 4 (some .int) 2 0 0 (qK (q_rb b) Q) 0 [(2, 0), (0, j), (0, v), (0, w)] [] (q_sh0, q_rb b, mem) := by
  refine q_aload_n dX11_seen_0 rfl rfl ?_
  refine q_iload_n dX11_seen_1 rfl rfl ?_
  refine qx_invV (ci := 11) [(0, j)] [(0, j), (2, 0)] rfl qM_X11_isJar dX11_seen_2 tw576 rfl qs0 rfl rfl rfl rfl (spX11_isJar) (fun r1 m1 p1 q1 => ?_)
  obtain ⟨p1e, ⟨p1f, p1⟩ | ⟨p1f, p1⟩⟩ := p1
  · rw [p1e, p1f]
    refine qx_if_eq (tgt := 34) dX11_seen_5 (by decide) (fun z => absurd z (by decide)) (fun _ => ?_)
    refine q_iload_n dX11_seen_8 rfl rfl ?_
    refine qx_invS [(0, v)] [(0, v)] rfl qM_X11_isSpan dX11_seen_9 tw668 rfl rfl rfl rfl (spX11_isSpan) (fun r2 m2 p2 q2 => ?_)
    obtain ⟨p2e, ⟨p2f, p2⟩ | ⟨p2f, p2⟩⟩ := p2
    · rw [p2e, p2f]
      refine qx_if_eq (tgt := 34) dX11_seen_12 (by decide) (fun z => absurd z (by decide)) (fun _ => ?_)
      refine q_iload_n dX11_seen_15 rfl rfl ?_
      refine qx_invS [(0, w)] [(0, w)] rfl qM_X11_isLevel dX11_seen_16 tw825 rfl rfl rfl rfl (spX11_isLevel) (fun r3 m3 p3 q3 => ?_)
      obtain ⟨p3e, ⟨p3f, p3⟩ | ⟨p3f, p3⟩⟩ := p3
      · rw [p3e, p3f]
        refine qx_if_eq (tgt := 34) dX11_seen_19 (by decide) (fun z => absurd z (by decide)) (fun _ => ?_)
        refine q_aload_n dX11_seen_22 rfl rfl ?_
        refine q_getR (ci := 11) (k := 12) dX11_seen_23 rfl (by decide) rfl tw361 (by decide) qs0 qw0_12 (by decide) ?_
        refine qx_getI (ci := 5) (k := 3) (v := (mem 159 3)) dX11_seen_26 rfl rfl rfl tw313 rfl qs159 rfl ?_
        refine qx_bipush dX11_seen_29 rfl rfl ?_
        refine qx_icmp_lt (tgt := 36) dX11_seen_31 (by decide) (fun c4 => ?_) (fun c4 => ?_)
        · skip
          refine q_aload_n dX11_seen_36 rfl rfl ?_
          refine q_getR (ci := 11) (k := 12) dX11_seen_37 rfl (by decide) rfl tw361 (by decide) qs0 qw0_12 (by decide) ?_
          refine q_iload_n dX11_seen_40 rfl rfl ?_
          refine q_iload_n dX11_seen_41 rfl rfl ?_
          refine q_iload_n dX11_seen_42 rfl rfl ?_
          refine qx_invV (ci := 5) [(0, j), (0, v), (0, w)] [(0, w), (0, v), (0, j), (2, 159)] rfl qM_X5_add dX11_seen_43 tw1022 rfl qs159 rfl rfl rfl rfl (l1 p1 p2 p3 c4) (fun r5 m5 p5 q5 => ?_)
          refine q_aload_n dX11_seen_46 rfl rfl ?_
          refine q_getR (ci := 11) (k := 12) dX11_seen_47 rfl (by decide) rfl tw361 (by decide) qs0 qw0_12 (by decide) ?_
          refine qx_getI (ci := 5) (k := 3) (v := (m5 159 3)) dX11_seen_50 rfl rfl rfl tw313 rfl qs159 rfl ?_
          exact q_iret dX11_seen_53 (qK_i (l2 p1 p2 p3 c4 r5 m5 p5 q5))
        · skip
          refine qx_iconst dX11_seen_34 rfl rfl ?_
          exact q_iret dX11_seen_35 (qK_i (l3 p1 p2 p3 c4))
      · rw [p3e, p3f]
        refine qx_if_eq (tgt := 34) dX11_seen_19 (by decide) (fun _ => ?_) (fun z => absurd z (by decide))
        refine qx_iconst dX11_seen_34 rfl rfl ?_
        exact q_iret dX11_seen_35 (qK_i (l4 p1 p2 p3))
    · rw [p2e, p2f]
      refine qx_if_eq (tgt := 34) dX11_seen_12 (by decide) (fun _ => ?_) (fun z => absurd z (by decide))
      refine qx_iconst dX11_seen_34 rfl rfl ?_
      exact q_iret dX11_seen_35 (qK_i (l5 p1 p2))
  · rw [p1e, p1f]
    refine qx_if_eq (tgt := 34) dX11_seen_5 (by decide) (fun _ => ?_) (fun z => absurd z (by decide))
    refine qx_iconst dX11_seen_34 rfl rfl ?_
    exact q_iret dX11_seen_35 (qK_i (l6 p1))
theorem dX11_sheetEntry_0 : decode cX11_sheetEntry 0 = .ok (.iload_n 1, 1) := by decide +kernel
theorem dX11_sheetEntry_1 : decode cX11_sheetEntry 1 = .ok (.istore_n 2, 1) := by decide +kernel
theorem dX11_sheetEntry_2 : decode cX11_sheetEntry 2 = .ok (.iload_n 0, 1) := by decide +kernel
theorem dX11_sheetEntry_3 : decode cX11_sheetEntry 3 = .ok (.ifCond .ne 9, 3) := by decide +kernel
theorem dX11_sheetEntry_6 : decode cX11_sheetEntry 6 = .ok (.iload_n 1, 1) := by decide +kernel
theorem dX11_sheetEntry_7 : decode cX11_sheetEntry 7 = .ok (.i2b, 1) := by decide +kernel
theorem dX11_sheetEntry_8 : decode cX11_sheetEntry 8 = .ok (.istore_n 2, 1) := by decide +kernel
theorem dX11_sheetEntry_9 : decode cX11_sheetEntry 9 = .ok (.goto 11, 3) := by decide +kernel
theorem dX11_sheetEntry_12 : decode cX11_sheetEntry 12 = .ok (.iload_n 0, 1) := by decide +kernel
theorem dX11_sheetEntry_13 : decode cX11_sheetEntry 13 = .ok (.iconst 1, 1) := by decide +kernel
theorem dX11_sheetEntry_14 : decode cX11_sheetEntry 14 = .ok (.if_icmp .ne 6, 3) := by decide +kernel
theorem dX11_sheetEntry_17 : decode cX11_sheetEntry 17 = .ok (.iload_n 1, 1) := by decide +kernel
theorem dX11_sheetEntry_18 : decode cX11_sheetEntry 18 = .ok (.i2s, 1) := by decide +kernel
theorem dX11_sheetEntry_19 : decode cX11_sheetEntry 19 = .ok (.istore_n 2, 1) := by decide +kernel
theorem dX11_sheetEntry_20 : decode cX11_sheetEntry 20 = .ok (.iconst 0, 1) := by decide +kernel
theorem dX11_sheetEntry_21 : decode cX11_sheetEntry 21 = .ok (.bipush 9, 2) := by decide +kernel
theorem dX11_sheetEntry_23 : decode cX11_sheetEntry 23 = .ok (.iload_n 2, 1) := by decide +kernel
theorem dX11_sheetEntry_24 : decode cX11_sheetEntry 24 = .ok (.invokestatic 180, 3) := by decide +kernel
theorem dX11_sheetEntry_27 : decode cX11_sheetEntry 27 = .ok (.invokestatic 185, 3) := by decide +kernel
theorem dX11_sheetEntry_30 : decode cX11_sheetEntry 30 = .ok (.ireturn, 1) := by decide +kernel
theorem bkX11_sheetEntry_0 {b : Int} {mem : qm} {Q : Int → qm → Prop}
    {kd v : Int}
    (l1 : kd ≠ 0 → kd ≠ 1 → Q (max 0 (min 9 v)) mem)
    (l2 : kd ≠ 0 → kd = 1 → Q (max 0 (min 9 (q_oi2s v))) mem)
    (l3 : kd = 0 → Q (max 0 (min 9 (q_oi2b v))) mem) :
    q_At yX11_sheetEntry cX11_sheetEntry 3 (some .int) 1 0 0 (qK (q_rb b) Q) 0 [(0, kd), (0, v), (4, 0)] [] (q_sh0, q_rb b, mem) := by
  refine q_iload_n dX11_sheetEntry_0 rfl rfl ?_
  refine qx_istore_n (L' := [(0, kd), (0, v), (0, v)]) dX11_sheetEntry_1 rfl rfl rfl rfl ?_
  refine q_iload_n dX11_sheetEntry_2 rfl rfl ?_
  refine qx_if_ne (tgt := 12) dX11_sheetEntry_3 (by decide) (fun c1 => ?_) (fun c1 => ?_)
  · skip
    refine q_iload_n dX11_sheetEntry_12 rfl rfl ?_
    refine qx_iconst dX11_sheetEntry_13 rfl rfl ?_
    refine qx_icmp_ne (tgt := 20) dX11_sheetEntry_14 (by decide) (fun c2 => ?_) (fun c2 => ?_)
    · skip
      refine qx_iconst dX11_sheetEntry_20 rfl rfl ?_
      refine qx_bipush dX11_sheetEntry_21 rfl rfl ?_
      refine q_iload_n dX11_sheetEntry_23 rfl rfl ?_
      refine q_min dX11_sheetEntry_24 tw595 tw429 tw15 tw430 (by decide) (Nat.le_of_ble_eq_true rfl) ?_
      refine q_max dX11_sheetEntry_27 tw596 tw597 tw15 tw598 (by decide) (Nat.le_of_ble_eq_true rfl) ?_
      exact q_iret dX11_sheetEntry_30 (qK_i (l1 c1 c2))
    · skip
      refine q_iload_n dX11_sheetEntry_17 rfl rfl ?_
      refine q_i2s dX11_sheetEntry_18 ?_
      refine qx_istore_n (L' := [(0, kd), (0, v), (0, (q_oi2s v))]) dX11_sheetEntry_19 rfl rfl rfl rfl ?_
      refine qx_iconst dX11_sheetEntry_20 rfl rfl ?_
      refine qx_bipush dX11_sheetEntry_21 rfl rfl ?_
      refine q_iload_n dX11_sheetEntry_23 rfl rfl ?_
      refine q_min dX11_sheetEntry_24 tw595 tw429 tw15 tw430 (by decide) (Nat.le_of_ble_eq_true rfl) ?_
      refine q_max dX11_sheetEntry_27 tw596 tw597 tw15 tw598 (by decide) (Nat.le_of_ble_eq_true rfl) ?_
      exact q_iret dX11_sheetEntry_30 (qK_i (l2 c1 c2))
  · skip
    refine q_iload_n dX11_sheetEntry_6 rfl rfl ?_
    refine q_i2b dX11_sheetEntry_7 ?_
    refine qx_istore_n (L' := [(0, kd), (0, v), (0, (q_oi2b v))]) dX11_sheetEntry_8 rfl rfl rfl rfl ?_
    refine q_goto (tgt := 20) dX11_sheetEntry_9 (by decide) ?_
    refine qx_iconst dX11_sheetEntry_20 rfl rfl ?_
    refine qx_bipush dX11_sheetEntry_21 rfl rfl ?_
    refine q_iload_n dX11_sheetEntry_23 rfl rfl ?_
    refine q_min dX11_sheetEntry_24 tw595 tw429 tw15 tw430 (by decide) (Nat.le_of_ble_eq_true rfl) ?_
    refine q_max dX11_sheetEntry_27 tw596 tw597 tw15 tw598 (by decide) (Nat.le_of_ble_eq_true rfl) ?_
    exact q_iret dX11_sheetEntry_30 (qK_i (l3 c1))
theorem dX11_sheet_0 : decode cX11_sheet 0 = .ok (.iload_n 1, 1) := by decide +kernel
theorem dX11_sheet_1 : decode cX11_sheet 1 = .ok (.ifCond .lt 14, 3) := by decide +kernel
theorem dX11_sheet_4 : decode cX11_sheet 4 = .ok (.iload_n 1, 1) := by decide +kernel
theorem dX11_sheet_5 : decode cX11_sheet 5 = .ok (.iconst 3, 1) := by decide +kernel
theorem dX11_sheet_6 : decode cX11_sheet 6 = .ok (.if_icmp .gt 9, 3) := by decide +kernel
theorem dX11_sheet_9 : decode cX11_sheet 9 = .ok (.iload_n 2, 1) := by decide +kernel
theorem dX11_sheet_10 : decode cX11_sheet 10 = .ok (.bipush 9, 2) := by decide +kernel
theorem dX11_sheet_12 : decode cX11_sheet 12 = .ok (.if_icmp .le 5, 3) := by decide +kernel
theorem dX11_sheet_15 : decode cX11_sheet 15 = .ok (.iconst (-1), 1) := by decide +kernel
theorem dX11_sheet_16 : decode cX11_sheet 16 = .ok (.ireturn, 1) := by decide +kernel
theorem dX11_sheet_17 : decode cX11_sheet 17 = .ok (.iload_n 1, 1) := by decide +kernel
theorem dX11_sheet_18 : decode cX11_sheet 18 = .ok (.iconst 3, 1) := by decide +kernel
theorem dX11_sheet_19 : decode cX11_sheet 19 = .ok (.if_icmp .ne 7, 3) := by decide +kernel
theorem dX11_sheet_22 : decode cX11_sheet 22 = .ok (.iconst 1, 1) := by decide +kernel
theorem dX11_sheet_23 : decode cX11_sheet 23 = .ok (.goto 4, 3) := by decide +kernel
theorem dX11_sheet_26 : decode cX11_sheet 26 = .ok (.iconst 0, 1) := by decide +kernel
theorem dX11_sheet_27 : decode cX11_sheet 27 = .ok (.istore 5, 2) := by decide +kernel
theorem dX11_sheet_29 : decode cX11_sheet 29 = .ok (.iload 5, 2) := by decide +kernel
theorem dX11_sheet_31 : decode cX11_sheet 31 = .ok (.ifCond .ne 10, 3) := by decide +kernel
theorem dX11_sheet_34 : decode cX11_sheet 34 = .ok (.iload_n 2, 1) := by decide +kernel
theorem dX11_sheet_35 : decode cX11_sheet 35 = .ok (.ifCond .ge 6, 3) := by decide +kernel
theorem dX11_sheet_38 : decode cX11_sheet 38 = .ok (.bipush (-2), 2) := by decide +kernel
theorem dX11_sheet_40 : decode cX11_sheet 40 = .ok (.ireturn, 1) := by decide +kernel
theorem dX11_sheet_41 : decode cX11_sheet 41 = .ok (.iconst 0, 1) := by decide +kernel
theorem dX11_sheet_42 : decode cX11_sheet 42 = .ok (.istore 6, 2) := by decide +kernel
theorem dX11_sheet_44 : decode cX11_sheet 44 = .ok (.iconst 0, 1) := by decide +kernel
theorem dX11_sheet_45 : decode cX11_sheet 45 = .ok (.istore 7, 2) := by decide +kernel
theorem dX11_sheet_47 : decode cX11_sheet 47 = .ok (.iload 7, 2) := by decide +kernel
theorem dX11_sheet_49 : decode cX11_sheet 49 = .ok (.aload_n 0, 1) := by decide +kernel
theorem dX11_sheet_50 : decode cX11_sheet 50 = .ok (.getfield 10, 3) := by decide +kernel
theorem dX11_sheet_53 : decode cX11_sheet 53 = .ok (.getfield 173, 3) := by decide +kernel
theorem dX11_sheet_56 : decode cX11_sheet 56 = .ok (.if_icmp .ge 56, 3) := by decide +kernel
theorem dX11_sheet_59 : decode cX11_sheet 59 = .ok (.iload 5, 2) := by decide +kernel
theorem dX11_sheet_61 : decode cX11_sheet 61 = .ok (.ifCond .ne 9, 3) := by decide +kernel
theorem dX11_sheet_64 : decode cX11_sheet 64 = .ok (.iload 7, 2) := by decide +kernel
theorem dX11_sheet_66 : decode cX11_sheet 66 = .ok (.iload_n 2, 1) := by decide +kernel
theorem dX11_sheet_67 : decode cX11_sheet 67 = .ok (.if_icmp .lt 7, 3) := by decide +kernel
theorem dX11_sheet_70 : decode cX11_sheet 70 = .ok (.iconst 0, 1) := by decide +kernel
theorem dX11_sheet_71 : decode cX11_sheet 71 = .ok (.goto 14, 3) := by decide +kernel
theorem dX11_sheet_74 : decode cX11_sheet 74 = .ok (.iload_n 1, 1) := by decide +kernel
theorem dX11_sheet_75 : decode cX11_sheet 75 = .ok (.iload_n 3, 1) := by decide +kernel
theorem dX11_sheet_76 : decode cX11_sheet 76 = .ok (.iload 7, 2) := by decide +kernel
theorem dX11_sheet_78 : decode cX11_sheet 78 = .ok (.iload 4, 2) := by decide +kernel
theorem dX11_sheet_80 : decode cX11_sheet 80 = .ok (.imul, 1) := by decide +kernel
theorem dX11_sheet_81 : decode cX11_sheet 81 = .ok (.iadd, 1) := by decide +kernel
theorem dX11_sheet_82 : decode cX11_sheet 82 = .ok (.invokestatic 176, 3) := by decide +kernel
theorem dX11_sheet_85 : decode cX11_sheet 85 = .ok (.istore 8, 2) := by decide +kernel
theorem dX11_sheet_87 : decode cX11_sheet 87 = .ok (.aload_n 0, 1) := by decide +kernel
theorem dX11_sheet_88 : decode cX11_sheet 88 = .ok (.getfield 19, 3) := by decide +kernel
theorem dX11_sheet_91 : decode cX11_sheet 91 = .ok (.getfield 148, 3) := by decide +kernel
theorem dX11_sheet_94 : decode cX11_sheet 94 = .ok (.iload 7, 2) := by decide +kernel
theorem dX11_sheet_96 : decode cX11_sheet 96 = .ok (.iload 8, 2) := by decide +kernel
theorem dX11_sheet_98 : decode cX11_sheet 98 = .ok (.iastore, 1) := by decide +kernel
theorem dX11_sheet_99 : decode cX11_sheet 99 = .ok (.iload 6, 2) := by decide +kernel
theorem dX11_sheet_101 : decode cX11_sheet 101 = .ok (.iload 8, 2) := by decide +kernel
theorem dX11_sheet_103 : decode cX11_sheet 103 = .ok (.iadd, 1) := by decide +kernel
theorem dX11_sheet_104 : decode cX11_sheet 104 = .ok (.istore 6, 2) := by decide +kernel
theorem dX11_sheet_106 : decode cX11_sheet 106 = .ok (.iinc 7 1, 3) := by decide +kernel
theorem dX11_sheet_109 : decode cX11_sheet 109 = .ok (.goto (-62), 3) := by decide +kernel
theorem dX11_sheet_112 : decode cX11_sheet 112 = .ok (.iload 5, 2) := by decide +kernel
theorem dX11_sheet_114 : decode cX11_sheet 114 = .ok (.ifCond .eq 8, 3) := by decide +kernel
theorem dX11_sheet_117 : decode cX11_sheet 117 = .ok (.bipush (-3), 2) := by decide +kernel
theorem dX11_sheet_119 : decode cX11_sheet 119 = .ok (.goto 5, 3) := by decide +kernel
theorem dX11_sheet_122 : decode cX11_sheet 122 = .ok (.iload 6, 2) := by decide +kernel
theorem dX11_sheet_124 : decode cX11_sheet 124 = .ok (.ireturn, 1) := by decide +kernel
theorem bkX11_sheet_0 {b : Int} {mem : qm} {Q : Int → qm → Prop}
    {kd v f st : Int}
    (l1 : kd < 0 → Q (-1) mem)
    (l2 : 0 ≤ kd → 3 < kd → Q (-1) mem)
    (l3 : 0 ≤ kd → kd ≤ 3 → v ≤ 9 → kd ≠ 3 → 0 ≤ v → q_At yX11_sheet cX11_sheet 9 (some .int) 2 0 0 (qK (q_rb b) Q) 47 [(2, 0), (0, kd), (0, v), (0, f), (0, st), (0, 0), (0, 0), (0, 0), (4, 0)] [] (q_sh0, q_rb b, mem))
    (l4 : 0 ≤ kd → kd ≤ 3 → v ≤ 9 → kd ≠ 3 → v < 0 → Q (-2) mem)
    (l5 : 0 ≤ kd → kd ≤ 3 → v ≤ 9 → kd = 3 → q_At yX11_sheet cX11_sheet 9 (some .int) 2 0 0 (qK (q_rb b) Q) 47 [(2, 0), (0, kd), (0, v), (0, f), (0, st), (0, 1), (0, 0), (0, 0), (4, 0)] [] (q_sh0, q_rb b, mem))
    (l6 : 0 ≤ kd → kd ≤ 3 → 9 < v → Q (-1) mem) :
    q_At yX11_sheet cX11_sheet 9 (some .int) 2 0 0 (qK (q_rb b) Q) 0 [(2, 0), (0, kd), (0, v), (0, f), (0, st), (4, 0), (4, 0), (4, 0), (4, 0)] [] (q_sh0, q_rb b, mem) := by
  refine q_iload_n dX11_sheet_0 rfl rfl ?_
  refine qx_if_lt (tgt := 15) dX11_sheet_1 (by decide) (fun c1 => ?_) (fun c1 => ?_)
  · skip
    refine qx_iconst dX11_sheet_15 rfl rfl ?_
    exact q_iret dX11_sheet_16 (qK_i (l1 c1))
  · skip
    refine q_iload_n dX11_sheet_4 rfl rfl ?_
    refine qx_iconst dX11_sheet_5 rfl rfl ?_
    refine qx_icmp_gt (tgt := 15) dX11_sheet_6 (by decide) (fun c2 => ?_) (fun c2 => ?_)
    · skip
      refine qx_iconst dX11_sheet_15 rfl rfl ?_
      exact q_iret dX11_sheet_16 (qK_i (l2 c1 c2))
    · skip
      refine q_iload_n dX11_sheet_9 rfl rfl ?_
      refine qx_bipush dX11_sheet_10 rfl rfl ?_
      refine qx_icmp_le (tgt := 17) dX11_sheet_12 (by decide) (fun c3 => ?_) (fun c3 => ?_)
      · skip
        refine q_iload_n dX11_sheet_17 rfl rfl ?_
        refine qx_iconst dX11_sheet_18 rfl rfl ?_
        refine qx_icmp_ne (tgt := 26) dX11_sheet_19 (by decide) (fun c4 => ?_) (fun c4 => ?_)
        · skip
          refine qx_iconst dX11_sheet_26 rfl rfl ?_
          refine qx_istore (L' := [(2, 0), (0, kd), (0, v), (0, f), (0, st), (0, 0), (4, 0), (4, 0), (4, 0)]) dX11_sheet_27 rfl rfl rfl ?_
          refine q_iload dX11_sheet_29 rfl ?_
          refine qx_if_ne (tgt := 41) dX11_sheet_31 (by decide) (fun z => absurd z (by decide)) (fun _ => ?_)
          refine q_iload_n dX11_sheet_34 rfl rfl ?_
          refine qx_if_ge (tgt := 41) dX11_sheet_35 (by decide) (fun c5 => ?_) (fun c5 => ?_)
          · skip
            refine qx_iconst dX11_sheet_41 rfl rfl ?_
            refine qx_istore (L' := [(2, 0), (0, kd), (0, v), (0, f), (0, st), (0, 0), (0, 0), (4, 0), (4, 0)]) dX11_sheet_42 rfl rfl rfl ?_
            refine qx_iconst dX11_sheet_44 rfl rfl ?_
            refine qx_istore (L' := [(2, 0), (0, kd), (0, v), (0, f), (0, st), (0, 0), (0, 0), (0, 0), (4, 0)]) dX11_sheet_45 rfl rfl rfl ?_
            exact l3 c1 c2 c3 c4 c5
          · skip
            refine qx_bipush dX11_sheet_38 rfl rfl ?_
            exact q_iret dX11_sheet_40 (qK_i (l4 c1 c2 c3 c4 c5))
        · skip
          refine qx_iconst dX11_sheet_22 rfl rfl ?_
          refine q_goto (tgt := 27) dX11_sheet_23 (by decide) ?_
          refine qx_istore (L' := [(2, 0), (0, kd), (0, v), (0, f), (0, st), (0, 1), (4, 0), (4, 0), (4, 0)]) dX11_sheet_27 rfl rfl rfl ?_
          refine q_iload dX11_sheet_29 rfl ?_
          refine qx_if_ne (tgt := 41) dX11_sheet_31 (by decide) (fun _ => ?_) (fun z => absurd z (by decide))
          refine qx_iconst dX11_sheet_41 rfl rfl ?_
          refine qx_istore (L' := [(2, 0), (0, kd), (0, v), (0, f), (0, st), (0, 1), (0, 0), (4, 0), (4, 0)]) dX11_sheet_42 rfl rfl rfl ?_
          refine qx_iconst dX11_sheet_44 rfl rfl ?_
          refine qx_istore (L' := [(2, 0), (0, kd), (0, v), (0, f), (0, st), (0, 1), (0, 0), (0, 0), (4, 0)]) dX11_sheet_45 rfl rfl rfl ?_
          exact l5 c1 c2 c3 c4
      · skip
        refine qx_iconst dX11_sheet_15 rfl rfl ?_
        exact q_iret dX11_sheet_16 (qK_i (l6 c1 c2 c3))
theorem bkX11_sheet_47 {b : Int} {mem : qm} {Q : Int → qm → Prop}
    {kd v f st v5 v6 v7 : Int}
    (l1 : (mem 1 3) ≤ v7 → v5 = 0 → Q v6 mem)
    (l2 : (mem 1 3) ≤ v7 → v5 ≠ 0 → Q (-3) mem)
    (o3 : v7 < (mem 1 3) → v5 ≠ 0 → (0 ≤ v7 ∧ v7 < 9) ∧ q_in32 (v7 + 1))
    (l4 : v7 < (mem 1 3) → v5 ≠ 0 → q_At yX11_sheet cX11_sheet 9 (some .int) 2 0 0 (qK (q_rb b) Q) 47 [(2, 0), (0, kd), (0, v), (0, f), (0, st), (0, v5), (0, (q_w32 (v6 + 0))), (0, (v7 + 1)), (4, 0)] [] (q_sh0, q_rb b, (q_up mem 10 v7 0)))
    {P5 : Int → qm → Prop}
    (l5 : v7 < (mem 1 3) → v5 = 0 → v7 < v → q_Ev yX11_sheetEntry cX11_sheetEntry 3 (some .int) 1 0 0 [(0, kd), (0, (q_w32 (f + (q_w32 (v7 * st)))))] (q_sh0, q_rb b, mem) (qK (q_rb b) (P5)))
    (o6 : v7 < (mem 1 3) → v5 = 0 → v7 < v → ∀ (r5 : Int), ∀ (m5 : qm), P5 r5 m5 → q_in32 r5 → (0 ≤ v7 ∧ v7 < 9) ∧ q_in32 (v7 + 1))
    (l7 : v7 < (mem 1 3) → v5 = 0 → v7 < v → ∀ (r5 : Int), ∀ (m5 : qm), P5 r5 m5 → q_in32 r5 → q_At yX11_sheet cX11_sheet 9 (some .int) 2 0 0 (qK (q_rb b) Q) 47 [(2, 0), (0, kd), (0, v), (0, f), (0, st), (0, v5), (0, (q_w32 (v6 + r5))), (0, (v7 + 1)), (4, 0)] [] (q_sh0, q_rb b, (q_up m5 10 v7 r5)))
    (o8 : v7 < (mem 1 3) → v5 = 0 → v ≤ v7 → (0 ≤ v7 ∧ v7 < 9) ∧ q_in32 (v7 + 1))
    (l9 : v7 < (mem 1 3) → v5 = 0 → v ≤ v7 → q_At yX11_sheet cX11_sheet 9 (some .int) 2 0 0 (qK (q_rb b) Q) 47 [(2, 0), (0, kd), (0, v), (0, f), (0, st), (0, v5), (0, (q_w32 (v6 + 0))), (0, (v7 + 1)), (4, 0)] [] (q_sh0, q_rb b, (q_up mem 10 v7 0))) :
    q_At yX11_sheet cX11_sheet 9 (some .int) 2 0 0 (qK (q_rb b) Q) 47 [(2, 0), (0, kd), (0, v), (0, f), (0, st), (0, v5), (0, v6), (0, v7), (4, 0)] [] (q_sh0, q_rb b, mem) := by
  refine q_iload dX11_sheet_47 rfl ?_
  refine q_aload_n dX11_sheet_49 rfl rfl ?_
  refine q_getR (ci := 11) (k := 0) dX11_sheet_50 rfl (by decide) rfl tw349 (by decide) qs0 qw0_0 (by decide) ?_
  refine qx_getI (ci := 9) (k := 3) (v := (mem 1 3)) dX11_sheet_53 rfl rfl rfl tw53 rfl qs1 rfl ?_
  refine qx_icmp_ge (tgt := 112) dX11_sheet_56 (by decide) (fun c1 => ?_) (fun c1 => ?_)
  · skip
    refine q_iload dX11_sheet_112 rfl ?_
    refine qx_if_eq (tgt := 122) dX11_sheet_114 (by decide) (fun c2 => ?_) (fun c2 => ?_)
    · skip
      refine q_iload dX11_sheet_122 rfl ?_
      exact q_iret dX11_sheet_124 (qK_i (l1 c1 c2))
    · skip
      refine qx_bipush dX11_sheet_117 rfl rfl ?_
      refine q_goto (tgt := 124) dX11_sheet_119 (by decide) ?_
      exact q_iret dX11_sheet_124 (qK_i (l2 c1 c2))
  · skip
    refine q_iload dX11_sheet_59 rfl ?_
    refine qx_if_ne (tgt := 70) dX11_sheet_61 (by decide) (fun c3 => ?_) (fun c3 => ?_)
    · skip
      refine qx_iconst dX11_sheet_70 rfl rfl ?_
      refine q_goto (tgt := 85) dX11_sheet_71 (by decide) ?_
      refine qx_istore (L' := [(2, 0), (0, kd), (0, v), (0, f), (0, st), (0, v5), (0, v6), (0, v7), (0, 0)]) dX11_sheet_85 rfl rfl rfl ?_
      refine q_aload_n dX11_sheet_87 rfl rfl ?_
      refine q_getR (ci := 11) (k := 1) dX11_sheet_88 rfl (by decide) rfl tw350 (by decide) qs0 qw0_1 (by decide) ?_
      refine q_getR (ci := 7) (k := 4) dX11_sheet_91 rfl (by decide) rfl tw87 (by decide) qs5 qw5_4 (by decide) ?_
      refine q_iload dX11_sheet_94 rfl ?_
      refine q_iload dX11_sheet_96 rfl ?_
      refine q_iast dX11_sheet_98 qs10 ((o3 c1 c3).1).1 ((o3 c1 c3).1).2 ?_
      refine q_iload dX11_sheet_99 rfl ?_
      refine q_iload dX11_sheet_101 rfl ?_
      refine q_iadd dX11_sheet_103 ?_
      refine qx_istore (L' := [(2, 0), (0, kd), (0, v), (0, f), (0, st), (0, v5), (0, (q_w32 (v6 + 0))), (0, v7), (0, 0)]) dX11_sheet_104 rfl rfl rfl ?_
      refine qx_iinc (L' := [(2, 0), (0, kd), (0, v), (0, f), (0, st), (0, v5), (0, (q_w32 (v6 + 0))), (0, (v7 + 1)), (0, 0)]) dX11_sheet_106 rfl rfl rfl (o3 c1 c3).2 rfl ?_
      refine q_goto (tgt := 47) dX11_sheet_109 (by decide) ?_
      refine q_kill (L' := [(2, 0), (0, kd), (0, v), (0, f), (0, st), (0, v5), (0, (q_w32 (v6 + 0))), (0, (v7 + 1)), (4, 0)]) 8 rfl ?_
      exact l4 c1 c3
    · skip
      refine q_iload dX11_sheet_64 rfl ?_
      refine q_iload_n dX11_sheet_66 rfl rfl ?_
      refine qx_icmp_lt (tgt := 74) dX11_sheet_67 (by decide) (fun c4 => ?_) (fun c4 => ?_)
      · skip
        refine q_iload_n dX11_sheet_74 rfl rfl ?_
        refine q_iload_n dX11_sheet_75 rfl rfl ?_
        refine q_iload dX11_sheet_76 rfl ?_
        refine q_iload dX11_sheet_78 rfl ?_
        refine q_imul dX11_sheet_80 ?_
        refine q_iadd dX11_sheet_81 ?_
        refine qx_invS [(0, kd), (0, (q_w32 (f + (q_w32 (v7 * st)))))] [(0, (q_w32 (f + (q_w32 (v7 * st))))), (0, kd)] rfl qM_X11_sheetEntry dX11_sheet_82 tw592 rfl rfl rfl rfl (l5 c1 c3 c4) (fun r5 m5 p5 q5 => ?_)
        refine qx_istore (L' := [(2, 0), (0, kd), (0, v), (0, f), (0, st), (0, v5), (0, v6), (0, v7), (0, r5)]) dX11_sheet_85 rfl rfl rfl ?_
        refine q_aload_n dX11_sheet_87 rfl rfl ?_
        refine q_getR (ci := 11) (k := 1) dX11_sheet_88 rfl (by decide) rfl tw350 (by decide) qs0 qw0_1 (by decide) ?_
        refine q_getR (ci := 7) (k := 4) dX11_sheet_91 rfl (by decide) rfl tw87 (by decide) qs5 qw5_4 (by decide) ?_
        refine q_iload dX11_sheet_94 rfl ?_
        refine q_iload dX11_sheet_96 rfl ?_
        refine q_iast dX11_sheet_98 qs10 ((o6 c1 c3 c4 r5 m5 p5 q5).1).1 ((o6 c1 c3 c4 r5 m5 p5 q5).1).2 ?_
        refine q_iload dX11_sheet_99 rfl ?_
        refine q_iload dX11_sheet_101 rfl ?_
        refine q_iadd dX11_sheet_103 ?_
        refine qx_istore (L' := [(2, 0), (0, kd), (0, v), (0, f), (0, st), (0, v5), (0, (q_w32 (v6 + r5))), (0, v7), (0, r5)]) dX11_sheet_104 rfl rfl rfl ?_
        refine qx_iinc (L' := [(2, 0), (0, kd), (0, v), (0, f), (0, st), (0, v5), (0, (q_w32 (v6 + r5))), (0, (v7 + 1)), (0, r5)]) dX11_sheet_106 rfl rfl rfl (o6 c1 c3 c4 r5 m5 p5 q5).2 rfl ?_
        refine q_goto (tgt := 47) dX11_sheet_109 (by decide) ?_
        refine q_kill (L' := [(2, 0), (0, kd), (0, v), (0, f), (0, st), (0, v5), (0, (q_w32 (v6 + r5))), (0, (v7 + 1)), (4, 0)]) 8 rfl ?_
        exact l7 c1 c3 c4 r5 m5 p5 q5
      · skip
        refine qx_iconst dX11_sheet_70 rfl rfl ?_
        refine q_goto (tgt := 85) dX11_sheet_71 (by decide) ?_
        refine qx_istore (L' := [(2, 0), (0, kd), (0, v), (0, f), (0, st), (0, v5), (0, v6), (0, v7), (0, 0)]) dX11_sheet_85 rfl rfl rfl ?_
        refine q_aload_n dX11_sheet_87 rfl rfl ?_
        refine q_getR (ci := 11) (k := 1) dX11_sheet_88 rfl (by decide) rfl tw350 (by decide) qs0 qw0_1 (by decide) ?_
        refine q_getR (ci := 7) (k := 4) dX11_sheet_91 rfl (by decide) rfl tw87 (by decide) qs5 qw5_4 (by decide) ?_
        refine q_iload dX11_sheet_94 rfl ?_
        refine q_iload dX11_sheet_96 rfl ?_
        refine q_iast dX11_sheet_98 qs10 ((o8 c1 c3 c4).1).1 ((o8 c1 c3 c4).1).2 ?_
        refine q_iload dX11_sheet_99 rfl ?_
        refine q_iload dX11_sheet_101 rfl ?_
        refine q_iadd dX11_sheet_103 ?_
        refine qx_istore (L' := [(2, 0), (0, kd), (0, v), (0, f), (0, st), (0, v5), (0, (q_w32 (v6 + 0))), (0, v7), (0, 0)]) dX11_sheet_104 rfl rfl rfl ?_
        refine qx_iinc (L' := [(2, 0), (0, kd), (0, v), (0, f), (0, st), (0, v5), (0, (q_w32 (v6 + 0))), (0, (v7 + 1)), (0, 0)]) dX11_sheet_106 rfl rfl rfl (o8 c1 c3 c4).2 rfl ?_
        refine q_goto (tgt := 47) dX11_sheet_109 (by decide) ?_
        refine q_kill (L' := [(2, 0), (0, kd), (0, v), (0, f), (0, st), (0, v5), (0, (q_w32 (v6 + 0))), (0, (v7 + 1)), (4, 0)]) 8 rfl ?_
        exact l9 c1 c3 c4
theorem dX12_sheet_0 : decode cX12_sheet 0 = .ok (.aload_n 0, 1) := by decide +kernel
theorem dX12_sheet_1 : decode cX12_sheet 1 = .ok (.iconst 0, 1) := by decide +kernel
theorem dX12_sheet_2 : decode cX12_sheet 2 = .ok (.putfield 128, 3) := by decide +kernel
theorem dX12_sheet_5 : decode cX12_sheet 5 = .ok (.iload_n 1, 1) := by decide +kernel
theorem dX12_sheet_6 : decode cX12_sheet 6 = .ok (.iconst 0, 1) := by decide +kernel
theorem dX12_sheet_7 : decode cX12_sheet 7 = .ok (.iconst 3, 1) := by decide +kernel
theorem dX12_sheet_8 : decode cX12_sheet 8 = .ok (.invokestatic 137, 3) := by decide +kernel
theorem dX12_sheet_11 : decode cX12_sheet 11 = .ok (.ifCond .eq 9, 3) := by decide +kernel
theorem dX12_sheet_14 : decode cX12_sheet 14 = .ok (.iload_n 2, 1) := by decide +kernel
theorem dX12_sheet_15 : decode cX12_sheet 15 = .ok (.bipush 9, 2) := by decide +kernel
theorem dX12_sheet_17 : decode cX12_sheet 17 = .ok (.if_icmp .le 5, 3) := by decide +kernel
theorem dX12_sheet_20 : decode cX12_sheet 20 = .ok (.iconst (-1), 1) := by decide +kernel
theorem dX12_sheet_21 : decode cX12_sheet 21 = .ok (.ireturn, 1) := by decide +kernel
theorem dX12_sheet_22 : decode cX12_sheet 22 = .ok (.iload_n 1, 1) := by decide +kernel
theorem dX12_sheet_23 : decode cX12_sheet 23 = .ok (.iconst 3, 1) := by decide +kernel
theorem dX12_sheet_24 : decode cX12_sheet 24 = .ok (.if_icmp .ge 10, 3) := by decide +kernel
theorem dX12_sheet_27 : decode cX12_sheet 27 = .ok (.iload_n 2, 1) := by decide +kernel
theorem dX12_sheet_28 : decode cX12_sheet 28 = .ok (.ifCond .ge 6, 3) := by decide +kernel
theorem dX12_sheet_31 : decode cX12_sheet 31 = .ok (.bipush (-2), 2) := by decide +kernel
theorem dX12_sheet_33 : decode cX12_sheet 33 = .ok (.ireturn, 1) := by decide +kernel
theorem dX12_sheet_34 : decode cX12_sheet 34 = .ok (.iconst 0, 1) := by decide +kernel
theorem dX12_sheet_35 : decode cX12_sheet 35 = .ok (.istore 5, 2) := by decide +kernel
theorem dX12_sheet_37 : decode cX12_sheet 37 = .ok (.iload_n 3, 1) := by decide +kernel
theorem dX12_sheet_38 : decode cX12_sheet 38 = .ok (.istore 6, 2) := by decide +kernel
theorem dX12_sheet_40 : decode cX12_sheet 40 = .ok (.iconst 0, 1) := by decide +kernel
theorem dX12_sheet_41 : decode cX12_sheet 41 = .ok (.istore 7, 2) := by decide +kernel
theorem dX12_sheet_43 : decode cX12_sheet 43 = .ok (.iload 7, 2) := by decide +kernel
theorem dX12_sheet_45 : decode cX12_sheet 45 = .ok (.aload_n 0, 1) := by decide +kernel
theorem dX12_sheet_46 : decode cX12_sheet 46 = .ok (.getfield 134, 3) := by decide +kernel
theorem dX12_sheet_49 : decode cX12_sheet 49 = .ok (.if_icmp .ge 86, 3) := by decide +kernel
theorem dX12_sheet_52 : decode cX12_sheet 52 = .ok (.iload_n 1, 1) := by decide +kernel
theorem dX12_sheet_53 : decode cX12_sheet 53 = .ok (.ifCond .ne 9, 3) := by decide +kernel
theorem dX12_sheet_56 : decode cX12_sheet 56 = .ok (.iload 6, 2) := by decide +kernel
theorem dX12_sheet_58 : decode cX12_sheet 58 = .ok (.i2b, 1) := by decide +kernel
theorem dX12_sheet_59 : decode cX12_sheet 59 = .ok (.goto 16, 3) := by decide +kernel
theorem dX12_sheet_62 : decode cX12_sheet 62 = .ok (.iload_n 1, 1) := by decide +kernel
theorem dX12_sheet_63 : decode cX12_sheet 63 = .ok (.iconst 1, 1) := by decide +kernel
theorem dX12_sheet_64 : decode cX12_sheet 64 = .ok (.if_icmp .ne 9, 3) := by decide +kernel
theorem dX12_sheet_67 : decode cX12_sheet 67 = .ok (.iload 6, 2) := by decide +kernel
theorem dX12_sheet_69 : decode cX12_sheet 69 = .ok (.i2s, 1) := by decide +kernel
theorem dX12_sheet_70 : decode cX12_sheet 70 = .ok (.goto 5, 3) := by decide +kernel
theorem dX12_sheet_73 : decode cX12_sheet 73 = .ok (.iload 6, 2) := by decide +kernel
theorem dX12_sheet_75 : decode cX12_sheet 75 = .ok (.istore 8, 2) := by decide +kernel
theorem dX12_sheet_77 : decode cX12_sheet 77 = .ok (.aload_n 0, 1) := by decide +kernel
theorem dX12_sheet_78 : decode cX12_sheet 78 = .ok (.getfield 16, 3) := by decide +kernel
theorem dX12_sheet_81 : decode cX12_sheet 81 = .ok (.iload 7, 2) := by decide +kernel
theorem dX12_sheet_83 : decode cX12_sheet 83 = .ok (.iload_n 1, 1) := by decide +kernel
theorem dX12_sheet_84 : decode cX12_sheet 84 = .ok (.iconst 3, 1) := by decide +kernel
theorem dX12_sheet_85 : decode cX12_sheet 85 = .ok (.if_icmp .eq 9, 3) := by decide +kernel
theorem dX12_sheet_88 : decode cX12_sheet 88 = .ok (.iload 7, 2) := by decide +kernel
theorem dX12_sheet_90 : decode cX12_sheet 90 = .ok (.iload_n 2, 1) := by decide +kernel
theorem dX12_sheet_91 : decode cX12_sheet 91 = .ok (.if_icmp .lt 7, 3) := by decide +kernel
theorem dX12_sheet_94 : decode cX12_sheet 94 = .ok (.iconst 0, 1) := by decide +kernel
theorem dX12_sheet_95 : decode cX12_sheet 95 = .ok (.goto 14, 3) := by decide +kernel
theorem dX12_sheet_98 : decode cX12_sheet 98 = .ok (.iconst 0, 1) := by decide +kernel
theorem dX12_sheet_99 : decode cX12_sheet 99 = .ok (.bipush 9, 2) := by decide +kernel
theorem dX12_sheet_101 : decode cX12_sheet 101 = .ok (.iload 8, 2) := by decide +kernel
theorem dX12_sheet_103 : decode cX12_sheet 103 = .ok (.invokestatic 234, 3) := by decide +kernel
theorem dX12_sheet_106 : decode cX12_sheet 106 = .ok (.invokestatic 240, 3) := by decide +kernel
theorem dX12_sheet_109 : decode cX12_sheet 109 = .ok (.iastore, 1) := by decide +kernel
theorem dX12_sheet_110 : decode cX12_sheet 110 = .ok (.iload 5, 2) := by decide +kernel
theorem dX12_sheet_112 : decode cX12_sheet 112 = .ok (.aload_n 0, 1) := by decide +kernel
theorem dX12_sheet_113 : decode cX12_sheet 113 = .ok (.getfield 16, 3) := by decide +kernel
theorem dX12_sheet_116 : decode cX12_sheet 116 = .ok (.iload 7, 2) := by decide +kernel
theorem dX12_sheet_118 : decode cX12_sheet 118 = .ok (.iaload, 1) := by decide +kernel
theorem dX12_sheet_119 : decode cX12_sheet 119 = .ok (.iadd, 1) := by decide +kernel
theorem dX12_sheet_120 : decode cX12_sheet 120 = .ok (.istore 5, 2) := by decide +kernel
theorem dX12_sheet_122 : decode cX12_sheet 122 = .ok (.iload 6, 2) := by decide +kernel
theorem dX12_sheet_124 : decode cX12_sheet 124 = .ok (.iload 4, 2) := by decide +kernel
theorem dX12_sheet_126 : decode cX12_sheet 126 = .ok (.iadd, 1) := by decide +kernel
theorem dX12_sheet_127 : decode cX12_sheet 127 = .ok (.istore 6, 2) := by decide +kernel
theorem dX12_sheet_129 : decode cX12_sheet 129 = .ok (.iinc 7 1, 3) := by decide +kernel
theorem dX12_sheet_132 : decode cX12_sheet 132 = .ok (.goto (-89), 3) := by decide +kernel
theorem dX12_sheet_135 : decode cX12_sheet 135 = .ok (.iload_n 1, 1) := by decide +kernel
theorem dX12_sheet_136 : decode cX12_sheet 136 = .ok (.iconst 3, 1) := by decide +kernel
theorem dX12_sheet_137 : decode cX12_sheet 137 = .ok (.if_icmp .ne 8, 3) := by decide +kernel
theorem dX12_sheet_140 : decode cX12_sheet 140 = .ok (.bipush (-3), 2) := by decide +kernel
theorem dX12_sheet_142 : decode cX12_sheet 142 = .ok (.goto 5, 3) := by decide +kernel
theorem dX12_sheet_145 : decode cX12_sheet 145 = .ok (.iload 5, 2) := by decide +kernel
theorem dX12_sheet_147 : decode cX12_sheet 147 = .ok (.ireturn, 1) := by decide +kernel
theorem bkX12_sheet_0 {b : Int} {mem : qm} {Q : Int → qm → Prop}
    {kd v f st : Int}
    (l1 : (0 ≤ kd ∧ kd ≤ 3) → v ≤ 9 → 3 ≤ kd → q_At yX12_sheet cX12_sheet 9 (some .int) 2 0 0 (qK (q_rb b) Q) 43 [(2, 188), (0, kd), (0, v), (0, f), (0, st), (0, 0), (0, f), (0, 0), (4, 0)] [] (q_sh0, q_rb b, (q_up mem 188 17 0)))
    (l2 : (0 ≤ kd ∧ kd ≤ 3) → v ≤ 9 → kd < 3 → 0 ≤ v → q_At yX12_sheet cX12_sheet 9 (some .int) 2 0 0 (qK (q_rb b) Q) 43 [(2, 188), (0, kd), (0, v), (0, f), (0, st), (0, 0), (0, f), (0, 0), (4, 0)] [] (q_sh0, q_rb b, (q_up mem 188 17 0)))
    (l3 : (0 ≤ kd ∧ kd ≤ 3) → v ≤ 9 → kd < 3 → v < 0 → Q (-2) (q_up mem 188 17 0))
    (l4 : (0 ≤ kd ∧ kd ≤ 3) → 9 < v → Q (-1) (q_up mem 188 17 0))
    (l5 : ¬ (0 ≤ kd ∧ kd ≤ 3) → Q (-1) (q_up mem 188 17 0)) :
    q_At yX12_sheet cX12_sheet 9 (some .int) 2 0 0 (qK (q_rb b) Q) 0 [(2, 188), (0, kd), (0, v), (0, f), (0, st), (4, 0), (4, 0), (4, 0), (4, 0)] [] (q_sh0, q_rb b, mem) := by
  refine q_aload_n dX12_sheet_0 rfl rfl ?_
  refine qx_iconst dX12_sheet_1 rfl rfl ?_
  refine q_putI (ci := 12) (k := 17) (kI := 17) (ty := .int) dX12_sheet_2 rfl (by decide) rfl tw1200 rfl rfl rfl (fun _ => ⟨rfl, rfl⟩) qs188 ?_
  refine q_iload_n dX12_sheet_5 rfl rfl ?_
  refine qx_iconst dX12_sheet_6 rfl rfl ?_
  refine qx_iconst dX12_sheet_7 rfl rfl ?_
  refine qx_invS [(0, kd), (0, 0), (0, 3)] [(0, 3), (0, 0), (0, kd)] rfl qM_X12_in dX12_sheet_8 tw1362 rfl rfl rfl rfl (spX12_in) (fun r1 m1 p1 q1 => ?_)
  obtain ⟨p1e, ⟨p1f, p1⟩ | ⟨p1f, p1⟩⟩ := p1
  · rw [p1e, p1f]
    refine qx_if_eq (tgt := 20) dX12_sheet_11 (by decide) (fun z => absurd z (by decide)) (fun _ => ?_)
    refine q_iload_n dX12_sheet_14 rfl rfl ?_
    refine qx_bipush dX12_sheet_15 rfl rfl ?_
    refine qx_icmp_le (tgt := 22) dX12_sheet_17 (by decide) (fun c2 => ?_) (fun c2 => ?_)
    · skip
      refine q_iload_n dX12_sheet_22 rfl rfl ?_
      refine qx_iconst dX12_sheet_23 rfl rfl ?_
      refine qx_icmp_ge (tgt := 34) dX12_sheet_24 (by decide) (fun c3 => ?_) (fun c3 => ?_)
      · skip
        refine qx_iconst dX12_sheet_34 rfl rfl ?_
        refine qx_istore (L' := [(2, 188), (0, kd), (0, v), (0, f), (0, st), (0, 0), (4, 0), (4, 0), (4, 0)]) dX12_sheet_35 rfl rfl rfl ?_
        refine q_iload_n dX12_sheet_37 rfl rfl ?_
        refine qx_istore (L' := [(2, 188), (0, kd), (0, v), (0, f), (0, st), (0, 0), (0, f), (4, 0), (4, 0)]) dX12_sheet_38 rfl rfl rfl ?_
        refine qx_iconst dX12_sheet_40 rfl rfl ?_
        refine qx_istore (L' := [(2, 188), (0, kd), (0, v), (0, f), (0, st), (0, 0), (0, f), (0, 0), (4, 0)]) dX12_sheet_41 rfl rfl rfl ?_
        exact l1 p1 c2 c3
      · skip
        refine q_iload_n dX12_sheet_27 rfl rfl ?_
        refine qx_if_ge (tgt := 34) dX12_sheet_28 (by decide) (fun c4 => ?_) (fun c4 => ?_)
        · skip
          refine qx_iconst dX12_sheet_34 rfl rfl ?_
          refine qx_istore (L' := [(2, 188), (0, kd), (0, v), (0, f), (0, st), (0, 0), (4, 0), (4, 0), (4, 0)]) dX12_sheet_35 rfl rfl rfl ?_
          refine q_iload_n dX12_sheet_37 rfl rfl ?_
          refine qx_istore (L' := [(2, 188), (0, kd), (0, v), (0, f), (0, st), (0, 0), (0, f), (4, 0), (4, 0)]) dX12_sheet_38 rfl rfl rfl ?_
          refine qx_iconst dX12_sheet_40 rfl rfl ?_
          refine qx_istore (L' := [(2, 188), (0, kd), (0, v), (0, f), (0, st), (0, 0), (0, f), (0, 0), (4, 0)]) dX12_sheet_41 rfl rfl rfl ?_
          exact l2 p1 c2 c3 c4
        · skip
          refine qx_bipush dX12_sheet_31 rfl rfl ?_
          exact q_iret dX12_sheet_33 (qK_i (l3 p1 c2 c3 c4))
    · skip
      refine qx_iconst dX12_sheet_20 rfl rfl ?_
      exact q_iret dX12_sheet_21 (qK_i (l4 p1 c2))
  · rw [p1e, p1f]
    refine qx_if_eq (tgt := 20) dX12_sheet_11 (by decide) (fun _ => ?_) (fun z => absurd z (by decide))
    refine qx_iconst dX12_sheet_20 rfl rfl ?_
    exact q_iret dX12_sheet_21 (qK_i (l5 p1))
theorem bkX12_sheet_43 {b : Int} {mem : qm} {Q : Int → qm → Prop}
    {kd v f st v5 v6 v7 : Int}
    (l1 : (mem 188 0) ≤ v7 → kd ≠ 3 → Q v5 mem)
    (l2 : (mem 188 0) ≤ v7 → kd = 3 → Q (-3) mem)
    (o3 : v7 < (mem 188 0) → kd ≠ 0 → kd ≠ 1 → kd = 3 → (0 ≤ v7 ∧ v7 < 9) ∧ q_in32 (v7 + 1))
    (l4 : v7 < (mem 188 0) → kd ≠ 0 → kd ≠ 1 → kd = 3 → q_At yX12_sheet cX12_sheet 9 (some .int) 2 0 0 (qK (q_rb b) Q) 43 [(2, 188), (0, kd), (0, v), (0, f), (0, st), (0, (q_w32 (v5 + (0 : Int)))), (0, (q_w32 (v6 + st))), (0, (v7 + 1)), (4, 0)] [] (q_sh0, q_rb b, (q_up mem 191 v7 0)))
    (o5 : v7 < (mem 188 0) → kd ≠ 0 → kd ≠ 1 → kd ≠ 3 → v7 < v → (0 ≤ v7 ∧ v7 < 9) ∧ q_in32 (v7 + 1))
    (l6 : v7 < (mem 188 0) → kd ≠ 0 → kd ≠ 1 → kd ≠ 3 → v7 < v → q_At yX12_sheet cX12_sheet 9 (some .int) 2 0 0 (qK (q_rb b) Q) 43 [(2, 188), (0, kd), (0, v), (0, f), (0, st), (0, (q_w32 (v5 + (max 0 (min 9 v6))))), (0, (q_w32 (v6 + st))), (0, (v7 + 1)), (4, 0)] [] (q_sh0, q_rb b, (q_up mem 191 v7 (max 0 (min 9 v6)))))
    (o7 : v7 < (mem 188 0) → kd ≠ 0 → kd ≠ 1 → kd ≠ 3 → v ≤ v7 → (0 ≤ v7 ∧ v7 < 9) ∧ q_in32 (v7 + 1))
    (l8 : v7 < (mem 188 0) → kd ≠ 0 → kd ≠ 1 → kd ≠ 3 → v ≤ v7 → q_At yX12_sheet cX12_sheet 9 (some .int) 2 0 0 (qK (q_rb b) Q) 43 [(2, 188), (0, kd), (0, v), (0, f), (0, st), (0, (q_w32 (v5 + (0 : Int)))), (0, (q_w32 (v6 + st))), (0, (v7 + 1)), (4, 0)] [] (q_sh0, q_rb b, (q_up mem 191 v7 0)))
    (o9 : v7 < (mem 188 0) → kd ≠ 0 → kd = 1 → kd = 3 → (0 ≤ v7 ∧ v7 < 9) ∧ q_in32 (v7 + 1))
    (l10 : v7 < (mem 188 0) → kd ≠ 0 → kd = 1 → kd = 3 → q_At yX12_sheet cX12_sheet 9 (some .int) 2 0 0 (qK (q_rb b) Q) 43 [(2, 188), (0, kd), (0, v), (0, f), (0, st), (0, (q_w32 (v5 + (0 : Int)))), (0, (q_w32 (v6 + st))), (0, (v7 + 1)), (4, 0)] [] (q_sh0, q_rb b, (q_up mem 191 v7 0)))
    (o11 : v7 < (mem 188 0) → kd ≠ 0 → kd = 1 → kd ≠ 3 → v7 < v → (0 ≤ v7 ∧ v7 < 9) ∧ q_in32 (v7 + 1))
    (l12 : v7 < (mem 188 0) → kd ≠ 0 → kd = 1 → kd ≠ 3 → v7 < v → q_At yX12_sheet cX12_sheet 9 (some .int) 2 0 0 (qK (q_rb b) Q) 43 [(2, 188), (0, kd), (0, v), (0, f), (0, st), (0, (q_w32 (v5 + (max 0 (min 9 (q_oi2s v6)))))), (0, (q_w32 (v6 + st))), (0, (v7 + 1)), (4, 0)] [] (q_sh0, q_rb b, (q_up mem 191 v7 (max 0 (min 9 (q_oi2s v6))))))
    (o13 : v7 < (mem 188 0) → kd ≠ 0 → kd = 1 → kd ≠ 3 → v ≤ v7 → (0 ≤ v7 ∧ v7 < 9) ∧ q_in32 (v7 + 1))
    (l14 : v7 < (mem 188 0) → kd ≠ 0 → kd = 1 → kd ≠ 3 → v ≤ v7 → q_At yX12_sheet cX12_sheet 9 (some .int) 2 0 0 (qK (q_rb b) Q) 43 [(2, 188), (0, kd), (0, v), (0, f), (0, st), (0, (q_w32 (v5 + (0 : Int)))), (0, (q_w32 (v6 + st))), (0, (v7 + 1)), (4, 0)] [] (q_sh0, q_rb b, (q_up mem 191 v7 0)))
    (o15 : v7 < (mem 188 0) → kd = 0 → kd = 3 → (0 ≤ v7 ∧ v7 < 9) ∧ q_in32 (v7 + 1))
    (l16 : v7 < (mem 188 0) → kd = 0 → kd = 3 → q_At yX12_sheet cX12_sheet 9 (some .int) 2 0 0 (qK (q_rb b) Q) 43 [(2, 188), (0, kd), (0, v), (0, f), (0, st), (0, (q_w32 (v5 + (0 : Int)))), (0, (q_w32 (v6 + st))), (0, (v7 + 1)), (4, 0)] [] (q_sh0, q_rb b, (q_up mem 191 v7 0)))
    (o17 : v7 < (mem 188 0) → kd = 0 → kd ≠ 3 → v7 < v → (0 ≤ v7 ∧ v7 < 9) ∧ q_in32 (v7 + 1))
    (l18 : v7 < (mem 188 0) → kd = 0 → kd ≠ 3 → v7 < v → q_At yX12_sheet cX12_sheet 9 (some .int) 2 0 0 (qK (q_rb b) Q) 43 [(2, 188), (0, kd), (0, v), (0, f), (0, st), (0, (q_w32 (v5 + (max 0 (min 9 (q_oi2b v6)))))), (0, (q_w32 (v6 + st))), (0, (v7 + 1)), (4, 0)] [] (q_sh0, q_rb b, (q_up mem 191 v7 (max 0 (min 9 (q_oi2b v6))))))
    (o19 : v7 < (mem 188 0) → kd = 0 → kd ≠ 3 → v ≤ v7 → (0 ≤ v7 ∧ v7 < 9) ∧ q_in32 (v7 + 1))
    (l20 : v7 < (mem 188 0) → kd = 0 → kd ≠ 3 → v ≤ v7 → q_At yX12_sheet cX12_sheet 9 (some .int) 2 0 0 (qK (q_rb b) Q) 43 [(2, 188), (0, kd), (0, v), (0, f), (0, st), (0, (q_w32 (v5 + (0 : Int)))), (0, (q_w32 (v6 + st))), (0, (v7 + 1)), (4, 0)] [] (q_sh0, q_rb b, (q_up mem 191 v7 0))) :
    q_At yX12_sheet cX12_sheet 9 (some .int) 2 0 0 (qK (q_rb b) Q) 43 [(2, 188), (0, kd), (0, v), (0, f), (0, st), (0, v5), (0, v6), (0, v7), (4, 0)] [] (q_sh0, q_rb b, mem) := by
  refine q_iload dX12_sheet_43 rfl ?_
  refine q_aload_n dX12_sheet_45 rfl rfl ?_
  refine qx_getI (ci := 12) (k := 0) (v := (mem 188 0)) dX12_sheet_46 rfl rfl rfl tw1183 rfl qs188 rfl ?_
  refine qx_icmp_ge (tgt := 135) dX12_sheet_49 (by decide) (fun c1 => ?_) (fun c1 => ?_)
  · skip
    refine q_iload_n dX12_sheet_135 rfl rfl ?_
    refine qx_iconst dX12_sheet_136 rfl rfl ?_
    refine qx_icmp_ne (tgt := 145) dX12_sheet_137 (by decide) (fun c2 => ?_) (fun c2 => ?_)
    · skip
      refine q_iload dX12_sheet_145 rfl ?_
      exact q_iret dX12_sheet_147 (qK_i (l1 c1 c2))
    · skip
      refine qx_bipush dX12_sheet_140 rfl rfl ?_
      refine q_goto (tgt := 147) dX12_sheet_142 (by decide) ?_
      exact q_iret dX12_sheet_147 (qK_i (l2 c1 c2))
  · skip
    refine q_iload_n dX12_sheet_52 rfl rfl ?_
    refine qx_if_ne (tgt := 62) dX12_sheet_53 (by decide) (fun c3 => ?_) (fun c3 => ?_)
    · skip
      refine q_iload_n dX12_sheet_62 rfl rfl ?_
      refine qx_iconst dX12_sheet_63 rfl rfl ?_
      refine qx_icmp_ne (tgt := 73) dX12_sheet_64 (by decide) (fun c4 => ?_) (fun c4 => ?_)
      · skip
        refine q_iload dX12_sheet_73 rfl ?_
        refine qx_istore (L' := [(2, 188), (0, kd), (0, v), (0, f), (0, st), (0, v5), (0, v6), (0, v7), (0, v6)]) dX12_sheet_75 rfl rfl rfl ?_
        refine q_aload_n dX12_sheet_77 rfl rfl ?_
        refine q_getR (ci := 12) (k := 3) dX12_sheet_78 rfl (by decide) rfl tw1186 (by decide) qs188 qw188_3 (by decide) ?_
        refine q_iload dX12_sheet_81 rfl ?_
        refine q_iload_n dX12_sheet_83 rfl rfl ?_
        refine qx_iconst dX12_sheet_84 rfl rfl ?_
        refine qx_icmp_eq (tgt := 94) dX12_sheet_85 (by decide) (fun c5 => ?_) (fun c5 => ?_)
        · skip
          refine qx_iconst dX12_sheet_94 rfl rfl ?_
          refine q_goto (tgt := 109) dX12_sheet_95 (by decide) ?_
          refine q_iast dX12_sheet_109 qs191 ((o3 c1 c3 c4 c5).1).1 ((o3 c1 c3 c4 c5).1).2 ?_
          refine q_iload dX12_sheet_110 rfl ?_
          refine q_aload_n dX12_sheet_112 rfl rfl ?_
          refine q_getR (ci := 12) (k := 3) dX12_sheet_113 rfl (by decide) rfl tw1186 (by decide) qs188 qw188_3 (by decide) ?_
          refine q_iload dX12_sheet_116 rfl ?_
          refine qx_iald (v := (0 : Int)) dX12_sheet_118 qs191 (o3 c1 c3 c4 c5).1 q_up_s ?_
          refine q_iadd dX12_sheet_119 ?_
          refine qx_istore (L' := [(2, 188), (0, kd), (0, v), (0, f), (0, st), (0, (q_w32 (v5 + (0 : Int)))), (0, v6), (0, v7), (0, v6)]) dX12_sheet_120 rfl rfl rfl ?_
          refine q_iload dX12_sheet_122 rfl ?_
          refine q_iload dX12_sheet_124 rfl ?_
          refine q_iadd dX12_sheet_126 ?_
          refine qx_istore (L' := [(2, 188), (0, kd), (0, v), (0, f), (0, st), (0, (q_w32 (v5 + (0 : Int)))), (0, (q_w32 (v6 + st))), (0, v7), (0, v6)]) dX12_sheet_127 rfl rfl rfl ?_
          refine qx_iinc (L' := [(2, 188), (0, kd), (0, v), (0, f), (0, st), (0, (q_w32 (v5 + (0 : Int)))), (0, (q_w32 (v6 + st))), (0, (v7 + 1)), (0, v6)]) dX12_sheet_129 rfl rfl rfl (o3 c1 c3 c4 c5).2 rfl ?_
          refine q_goto (tgt := 43) dX12_sheet_132 (by decide) ?_
          refine q_kill (L' := [(2, 188), (0, kd), (0, v), (0, f), (0, st), (0, (q_w32 (v5 + (0 : Int)))), (0, (q_w32 (v6 + st))), (0, (v7 + 1)), (4, 0)]) 8 rfl ?_
          exact l4 c1 c3 c4 c5
        · skip
          refine q_iload dX12_sheet_88 rfl ?_
          refine q_iload_n dX12_sheet_90 rfl rfl ?_
          refine qx_icmp_lt (tgt := 98) dX12_sheet_91 (by decide) (fun c6 => ?_) (fun c6 => ?_)
          · skip
            refine qx_iconst dX12_sheet_98 rfl rfl ?_
            refine qx_bipush dX12_sheet_99 rfl rfl ?_
            refine q_iload dX12_sheet_101 rfl ?_
            refine q_min dX12_sheet_103 tw1457 tw429 tw15 tw430 (by decide) (Nat.le_of_ble_eq_true rfl) ?_
            refine q_max dX12_sheet_106 tw1458 tw597 tw15 tw598 (by decide) (Nat.le_of_ble_eq_true rfl) ?_
            refine q_iast dX12_sheet_109 qs191 ((o5 c1 c3 c4 c5 c6).1).1 ((o5 c1 c3 c4 c5 c6).1).2 ?_
            refine q_iload dX12_sheet_110 rfl ?_
            refine q_aload_n dX12_sheet_112 rfl rfl ?_
            refine q_getR (ci := 12) (k := 3) dX12_sheet_113 rfl (by decide) rfl tw1186 (by decide) qs188 qw188_3 (by decide) ?_
            refine q_iload dX12_sheet_116 rfl ?_
            refine qx_iald (v := (max 0 (min 9 v6))) dX12_sheet_118 qs191 (o5 c1 c3 c4 c5 c6).1 q_up_s ?_
            refine q_iadd dX12_sheet_119 ?_
            refine qx_istore (L' := [(2, 188), (0, kd), (0, v), (0, f), (0, st), (0, (q_w32 (v5 + (max 0 (min 9 v6))))), (0, v6), (0, v7), (0, v6)]) dX12_sheet_120 rfl rfl rfl ?_
            refine q_iload dX12_sheet_122 rfl ?_
            refine q_iload dX12_sheet_124 rfl ?_
            refine q_iadd dX12_sheet_126 ?_
            refine qx_istore (L' := [(2, 188), (0, kd), (0, v), (0, f), (0, st), (0, (q_w32 (v5 + (max 0 (min 9 v6))))), (0, (q_w32 (v6 + st))), (0, v7), (0, v6)]) dX12_sheet_127 rfl rfl rfl ?_
            refine qx_iinc (L' := [(2, 188), (0, kd), (0, v), (0, f), (0, st), (0, (q_w32 (v5 + (max 0 (min 9 v6))))), (0, (q_w32 (v6 + st))), (0, (v7 + 1)), (0, v6)]) dX12_sheet_129 rfl rfl rfl (o5 c1 c3 c4 c5 c6).2 rfl ?_
            refine q_goto (tgt := 43) dX12_sheet_132 (by decide) ?_
            refine q_kill (L' := [(2, 188), (0, kd), (0, v), (0, f), (0, st), (0, (q_w32 (v5 + (max 0 (min 9 v6))))), (0, (q_w32 (v6 + st))), (0, (v7 + 1)), (4, 0)]) 8 rfl ?_
            exact l6 c1 c3 c4 c5 c6
          · skip
            refine qx_iconst dX12_sheet_94 rfl rfl ?_
            refine q_goto (tgt := 109) dX12_sheet_95 (by decide) ?_
            refine q_iast dX12_sheet_109 qs191 ((o7 c1 c3 c4 c5 c6).1).1 ((o7 c1 c3 c4 c5 c6).1).2 ?_
            refine q_iload dX12_sheet_110 rfl ?_
            refine q_aload_n dX12_sheet_112 rfl rfl ?_
            refine q_getR (ci := 12) (k := 3) dX12_sheet_113 rfl (by decide) rfl tw1186 (by decide) qs188 qw188_3 (by decide) ?_
            refine q_iload dX12_sheet_116 rfl ?_
            refine qx_iald (v := (0 : Int)) dX12_sheet_118 qs191 (o7 c1 c3 c4 c5 c6).1 q_up_s ?_
            refine q_iadd dX12_sheet_119 ?_
            refine qx_istore (L' := [(2, 188), (0, kd), (0, v), (0, f), (0, st), (0, (q_w32 (v5 + (0 : Int)))), (0, v6), (0, v7), (0, v6)]) dX12_sheet_120 rfl rfl rfl ?_
            refine q_iload dX12_sheet_122 rfl ?_
            refine q_iload dX12_sheet_124 rfl ?_
            refine q_iadd dX12_sheet_126 ?_
            refine qx_istore (L' := [(2, 188), (0, kd), (0, v), (0, f), (0, st), (0, (q_w32 (v5 + (0 : Int)))), (0, (q_w32 (v6 + st))), (0, v7), (0, v6)]) dX12_sheet_127 rfl rfl rfl ?_
            refine qx_iinc (L' := [(2, 188), (0, kd), (0, v), (0, f), (0, st), (0, (q_w32 (v5 + (0 : Int)))), (0, (q_w32 (v6 + st))), (0, (v7 + 1)), (0, v6)]) dX12_sheet_129 rfl rfl rfl (o7 c1 c3 c4 c5 c6).2 rfl ?_
            refine q_goto (tgt := 43) dX12_sheet_132 (by decide) ?_
            refine q_kill (L' := [(2, 188), (0, kd), (0, v), (0, f), (0, st), (0, (q_w32 (v5 + (0 : Int)))), (0, (q_w32 (v6 + st))), (0, (v7 + 1)), (4, 0)]) 8 rfl ?_
            exact l8 c1 c3 c4 c5 c6
      · skip
        refine q_iload dX12_sheet_67 rfl ?_
        refine q_i2s dX12_sheet_69 ?_
        refine q_goto (tgt := 75) dX12_sheet_70 (by decide) ?_
        refine qx_istore (L' := [(2, 188), (0, kd), (0, v), (0, f), (0, st), (0, v5), (0, v6), (0, v7), (0, (q_oi2s v6))]) dX12_sheet_75 rfl rfl rfl ?_
        refine q_aload_n dX12_sheet_77 rfl rfl ?_
        refine q_getR (ci := 12) (k := 3) dX12_sheet_78 rfl (by decide) rfl tw1186 (by decide) qs188 qw188_3 (by decide) ?_
        refine q_iload dX12_sheet_81 rfl ?_
        refine q_iload_n dX12_sheet_83 rfl rfl ?_
        refine qx_iconst dX12_sheet_84 rfl rfl ?_
        refine qx_icmp_eq (tgt := 94) dX12_sheet_85 (by decide) (fun c7 => ?_) (fun c7 => ?_)
        · skip
          refine qx_iconst dX12_sheet_94 rfl rfl ?_
          refine q_goto (tgt := 109) dX12_sheet_95 (by decide) ?_
          refine q_iast dX12_sheet_109 qs191 ((o9 c1 c3 c4 c7).1).1 ((o9 c1 c3 c4 c7).1).2 ?_
          refine q_iload dX12_sheet_110 rfl ?_
          refine q_aload_n dX12_sheet_112 rfl rfl ?_
          refine q_getR (ci := 12) (k := 3) dX12_sheet_113 rfl (by decide) rfl tw1186 (by decide) qs188 qw188_3 (by decide) ?_
          refine q_iload dX12_sheet_116 rfl ?_
          refine qx_iald (v := (0 : Int)) dX12_sheet_118 qs191 (o9 c1 c3 c4 c7).1 q_up_s ?_
          refine q_iadd dX12_sheet_119 ?_
          refine qx_istore (L' := [(2, 188), (0, kd), (0, v), (0, f), (0, st), (0, (q_w32 (v5 + (0 : Int)))), (0, v6), (0, v7), (0, (q_oi2s v6))]) dX12_sheet_120 rfl rfl rfl ?_
          refine q_iload dX12_sheet_122 rfl ?_
          refine q_iload dX12_sheet_124 rfl ?_
          refine q_iadd dX12_sheet_126 ?_
          refine qx_istore (L' := [(2, 188), (0, kd), (0, v), (0, f), (0, st), (0, (q_w32 (v5 + (0 : Int)))), (0, (q_w32 (v6 + st))), (0, v7), (0, (q_oi2s v6))]) dX12_sheet_127 rfl rfl rfl ?_
          refine qx_iinc (L' := [(2, 188), (0, kd), (0, v), (0, f), (0, st), (0, (q_w32 (v5 + (0 : Int)))), (0, (q_w32 (v6 + st))), (0, (v7 + 1)), (0, (q_oi2s v6))]) dX12_sheet_129 rfl rfl rfl (o9 c1 c3 c4 c7).2 rfl ?_
          refine q_goto (tgt := 43) dX12_sheet_132 (by decide) ?_
          refine q_kill (L' := [(2, 188), (0, kd), (0, v), (0, f), (0, st), (0, (q_w32 (v5 + (0 : Int)))), (0, (q_w32 (v6 + st))), (0, (v7 + 1)), (4, 0)]) 8 rfl ?_
          exact l10 c1 c3 c4 c7
        · skip
          refine q_iload dX12_sheet_88 rfl ?_
          refine q_iload_n dX12_sheet_90 rfl rfl ?_
          refine qx_icmp_lt (tgt := 98) dX12_sheet_91 (by decide) (fun c8 => ?_) (fun c8 => ?_)
          · skip
            refine qx_iconst dX12_sheet_98 rfl rfl ?_
            refine qx_bipush dX12_sheet_99 rfl rfl ?_
            refine q_iload dX12_sheet_101 rfl ?_
            refine q_min dX12_sheet_103 tw1457 tw429 tw15 tw430 (by decide) (Nat.le_of_ble_eq_true rfl) ?_
            refine q_max dX12_sheet_106 tw1458 tw597 tw15 tw598 (by decide) (Nat.le_of_ble_eq_true rfl) ?_
            refine q_iast dX12_sheet_109 qs191 ((o11 c1 c3 c4 c7 c8).1).1 ((o11 c1 c3 c4 c7 c8).1).2 ?_
            refine q_iload dX12_sheet_110 rfl ?_
            refine q_aload_n dX12_sheet_112 rfl rfl ?_
            refine q_getR (ci := 12) (k := 3) dX12_sheet_113 rfl (by decide) rfl tw1186 (by decide) qs188 qw188_3 (by decide) ?_
            refine q_iload dX12_sheet_116 rfl ?_
            refine qx_iald (v := (max 0 (min 9 (q_oi2s v6)))) dX12_sheet_118 qs191 (o11 c1 c3 c4 c7 c8).1 q_up_s ?_
            refine q_iadd dX12_sheet_119 ?_
            refine qx_istore (L' := [(2, 188), (0, kd), (0, v), (0, f), (0, st), (0, (q_w32 (v5 + (max 0 (min 9 (q_oi2s v6)))))), (0, v6), (0, v7), (0, (q_oi2s v6))]) dX12_sheet_120 rfl rfl rfl ?_
            refine q_iload dX12_sheet_122 rfl ?_
            refine q_iload dX12_sheet_124 rfl ?_
            refine q_iadd dX12_sheet_126 ?_
            refine qx_istore (L' := [(2, 188), (0, kd), (0, v), (0, f), (0, st), (0, (q_w32 (v5 + (max 0 (min 9 (q_oi2s v6)))))), (0, (q_w32 (v6 + st))), (0, v7), (0, (q_oi2s v6))]) dX12_sheet_127 rfl rfl rfl ?_
            refine qx_iinc (L' := [(2, 188), (0, kd), (0, v), (0, f), (0, st), (0, (q_w32 (v5 + (max 0 (min 9 (q_oi2s v6)))))), (0, (q_w32 (v6 + st))), (0, (v7 + 1)), (0, (q_oi2s v6))]) dX12_sheet_129 rfl rfl rfl (o11 c1 c3 c4 c7 c8).2 rfl ?_
            refine q_goto (tgt := 43) dX12_sheet_132 (by decide) ?_
            refine q_kill (L' := [(2, 188), (0, kd), (0, v), (0, f), (0, st), (0, (q_w32 (v5 + (max 0 (min 9 (q_oi2s v6)))))), (0, (q_w32 (v6 + st))), (0, (v7 + 1)), (4, 0)]) 8 rfl ?_
            exact l12 c1 c3 c4 c7 c8
          · skip
            refine qx_iconst dX12_sheet_94 rfl rfl ?_
            refine q_goto (tgt := 109) dX12_sheet_95 (by decide) ?_
            refine q_iast dX12_sheet_109 qs191 ((o13 c1 c3 c4 c7 c8).1).1 ((o13 c1 c3 c4 c7 c8).1).2 ?_
            refine q_iload dX12_sheet_110 rfl ?_
            refine q_aload_n dX12_sheet_112 rfl rfl ?_
            refine q_getR (ci := 12) (k := 3) dX12_sheet_113 rfl (by decide) rfl tw1186 (by decide) qs188 qw188_3 (by decide) ?_
            refine q_iload dX12_sheet_116 rfl ?_
            refine qx_iald (v := (0 : Int)) dX12_sheet_118 qs191 (o13 c1 c3 c4 c7 c8).1 q_up_s ?_
            refine q_iadd dX12_sheet_119 ?_
            refine qx_istore (L' := [(2, 188), (0, kd), (0, v), (0, f), (0, st), (0, (q_w32 (v5 + (0 : Int)))), (0, v6), (0, v7), (0, (q_oi2s v6))]) dX12_sheet_120 rfl rfl rfl ?_
            refine q_iload dX12_sheet_122 rfl ?_
            refine q_iload dX12_sheet_124 rfl ?_
            refine q_iadd dX12_sheet_126 ?_
            refine qx_istore (L' := [(2, 188), (0, kd), (0, v), (0, f), (0, st), (0, (q_w32 (v5 + (0 : Int)))), (0, (q_w32 (v6 + st))), (0, v7), (0, (q_oi2s v6))]) dX12_sheet_127 rfl rfl rfl ?_
            refine qx_iinc (L' := [(2, 188), (0, kd), (0, v), (0, f), (0, st), (0, (q_w32 (v5 + (0 : Int)))), (0, (q_w32 (v6 + st))), (0, (v7 + 1)), (0, (q_oi2s v6))]) dX12_sheet_129 rfl rfl rfl (o13 c1 c3 c4 c7 c8).2 rfl ?_
            refine q_goto (tgt := 43) dX12_sheet_132 (by decide) ?_
            refine q_kill (L' := [(2, 188), (0, kd), (0, v), (0, f), (0, st), (0, (q_w32 (v5 + (0 : Int)))), (0, (q_w32 (v6 + st))), (0, (v7 + 1)), (4, 0)]) 8 rfl ?_
            exact l14 c1 c3 c4 c7 c8
    · skip
      refine q_iload dX12_sheet_56 rfl ?_
      refine q_i2b dX12_sheet_58 ?_
      refine q_goto (tgt := 75) dX12_sheet_59 (by decide) ?_
      refine qx_istore (L' := [(2, 188), (0, kd), (0, v), (0, f), (0, st), (0, v5), (0, v6), (0, v7), (0, (q_oi2b v6))]) dX12_sheet_75 rfl rfl rfl ?_
      refine q_aload_n dX12_sheet_77 rfl rfl ?_
      refine q_getR (ci := 12) (k := 3) dX12_sheet_78 rfl (by decide) rfl tw1186 (by decide) qs188 qw188_3 (by decide) ?_
      refine q_iload dX12_sheet_81 rfl ?_
      refine q_iload_n dX12_sheet_83 rfl rfl ?_
      refine qx_iconst dX12_sheet_84 rfl rfl ?_
      refine qx_icmp_eq (tgt := 94) dX12_sheet_85 (by decide) (fun c9 => ?_) (fun c9 => ?_)
      · skip
        refine qx_iconst dX12_sheet_94 rfl rfl ?_
        refine q_goto (tgt := 109) dX12_sheet_95 (by decide) ?_
        refine q_iast dX12_sheet_109 qs191 ((o15 c1 c3 c9).1).1 ((o15 c1 c3 c9).1).2 ?_
        refine q_iload dX12_sheet_110 rfl ?_
        refine q_aload_n dX12_sheet_112 rfl rfl ?_
        refine q_getR (ci := 12) (k := 3) dX12_sheet_113 rfl (by decide) rfl tw1186 (by decide) qs188 qw188_3 (by decide) ?_
        refine q_iload dX12_sheet_116 rfl ?_
        refine qx_iald (v := (0 : Int)) dX12_sheet_118 qs191 (o15 c1 c3 c9).1 q_up_s ?_
        refine q_iadd dX12_sheet_119 ?_
        refine qx_istore (L' := [(2, 188), (0, kd), (0, v), (0, f), (0, st), (0, (q_w32 (v5 + (0 : Int)))), (0, v6), (0, v7), (0, (q_oi2b v6))]) dX12_sheet_120 rfl rfl rfl ?_
        refine q_iload dX12_sheet_122 rfl ?_
        refine q_iload dX12_sheet_124 rfl ?_
        refine q_iadd dX12_sheet_126 ?_
        refine qx_istore (L' := [(2, 188), (0, kd), (0, v), (0, f), (0, st), (0, (q_w32 (v5 + (0 : Int)))), (0, (q_w32 (v6 + st))), (0, v7), (0, (q_oi2b v6))]) dX12_sheet_127 rfl rfl rfl ?_
        refine qx_iinc (L' := [(2, 188), (0, kd), (0, v), (0, f), (0, st), (0, (q_w32 (v5 + (0 : Int)))), (0, (q_w32 (v6 + st))), (0, (v7 + 1)), (0, (q_oi2b v6))]) dX12_sheet_129 rfl rfl rfl (o15 c1 c3 c9).2 rfl ?_
        refine q_goto (tgt := 43) dX12_sheet_132 (by decide) ?_
        refine q_kill (L' := [(2, 188), (0, kd), (0, v), (0, f), (0, st), (0, (q_w32 (v5 + (0 : Int)))), (0, (q_w32 (v6 + st))), (0, (v7 + 1)), (4, 0)]) 8 rfl ?_
        exact l16 c1 c3 c9
      · skip
        refine q_iload dX12_sheet_88 rfl ?_
        refine q_iload_n dX12_sheet_90 rfl rfl ?_
        refine qx_icmp_lt (tgt := 98) dX12_sheet_91 (by decide) (fun c10 => ?_) (fun c10 => ?_)
        · skip
          refine qx_iconst dX12_sheet_98 rfl rfl ?_
          refine qx_bipush dX12_sheet_99 rfl rfl ?_
          refine q_iload dX12_sheet_101 rfl ?_
          refine q_min dX12_sheet_103 tw1457 tw429 tw15 tw430 (by decide) (Nat.le_of_ble_eq_true rfl) ?_
          refine q_max dX12_sheet_106 tw1458 tw597 tw15 tw598 (by decide) (Nat.le_of_ble_eq_true rfl) ?_
          refine q_iast dX12_sheet_109 qs191 ((o17 c1 c3 c9 c10).1).1 ((o17 c1 c3 c9 c10).1).2 ?_
          refine q_iload dX12_sheet_110 rfl ?_
          refine q_aload_n dX12_sheet_112 rfl rfl ?_
          refine q_getR (ci := 12) (k := 3) dX12_sheet_113 rfl (by decide) rfl tw1186 (by decide) qs188 qw188_3 (by decide) ?_
          refine q_iload dX12_sheet_116 rfl ?_
          refine qx_iald (v := (max 0 (min 9 (q_oi2b v6)))) dX12_sheet_118 qs191 (o17 c1 c3 c9 c10).1 q_up_s ?_
          refine q_iadd dX12_sheet_119 ?_
          refine qx_istore (L' := [(2, 188), (0, kd), (0, v), (0, f), (0, st), (0, (q_w32 (v5 + (max 0 (min 9 (q_oi2b v6)))))), (0, v6), (0, v7), (0, (q_oi2b v6))]) dX12_sheet_120 rfl rfl rfl ?_
          refine q_iload dX12_sheet_122 rfl ?_
          refine q_iload dX12_sheet_124 rfl ?_
          refine q_iadd dX12_sheet_126 ?_
          refine qx_istore (L' := [(2, 188), (0, kd), (0, v), (0, f), (0, st), (0, (q_w32 (v5 + (max 0 (min 9 (q_oi2b v6)))))), (0, (q_w32 (v6 + st))), (0, v7), (0, (q_oi2b v6))]) dX12_sheet_127 rfl rfl rfl ?_
          refine qx_iinc (L' := [(2, 188), (0, kd), (0, v), (0, f), (0, st), (0, (q_w32 (v5 + (max 0 (min 9 (q_oi2b v6)))))), (0, (q_w32 (v6 + st))), (0, (v7 + 1)), (0, (q_oi2b v6))]) dX12_sheet_129 rfl rfl rfl (o17 c1 c3 c9 c10).2 rfl ?_
          refine q_goto (tgt := 43) dX12_sheet_132 (by decide) ?_
          refine q_kill (L' := [(2, 188), (0, kd), (0, v), (0, f), (0, st), (0, (q_w32 (v5 + (max 0 (min 9 (q_oi2b v6)))))), (0, (q_w32 (v6 + st))), (0, (v7 + 1)), (4, 0)]) 8 rfl ?_
          exact l18 c1 c3 c9 c10
        · skip
          refine qx_iconst dX12_sheet_94 rfl rfl ?_
          refine q_goto (tgt := 109) dX12_sheet_95 (by decide) ?_
          refine q_iast dX12_sheet_109 qs191 ((o19 c1 c3 c9 c10).1).1 ((o19 c1 c3 c9 c10).1).2 ?_
          refine q_iload dX12_sheet_110 rfl ?_
          refine q_aload_n dX12_sheet_112 rfl rfl ?_
          refine q_getR (ci := 12) (k := 3) dX12_sheet_113 rfl (by decide) rfl tw1186 (by decide) qs188 qw188_3 (by decide) ?_
          refine q_iload dX12_sheet_116 rfl ?_
          refine qx_iald (v := (0 : Int)) dX12_sheet_118 qs191 (o19 c1 c3 c9 c10).1 q_up_s ?_
          refine q_iadd dX12_sheet_119 ?_
          refine qx_istore (L' := [(2, 188), (0, kd), (0, v), (0, f), (0, st), (0, (q_w32 (v5 + (0 : Int)))), (0, v6), (0, v7), (0, (q_oi2b v6))]) dX12_sheet_120 rfl rfl rfl ?_
          refine q_iload dX12_sheet_122 rfl ?_
          refine q_iload dX12_sheet_124 rfl ?_
          refine q_iadd dX12_sheet_126 ?_
          refine qx_istore (L' := [(2, 188), (0, kd), (0, v), (0, f), (0, st), (0, (q_w32 (v5 + (0 : Int)))), (0, (q_w32 (v6 + st))), (0, v7), (0, (q_oi2b v6))]) dX12_sheet_127 rfl rfl rfl ?_
          refine qx_iinc (L' := [(2, 188), (0, kd), (0, v), (0, f), (0, st), (0, (q_w32 (v5 + (0 : Int)))), (0, (q_w32 (v6 + st))), (0, (v7 + 1)), (0, (q_oi2b v6))]) dX12_sheet_129 rfl rfl rfl (o19 c1 c3 c9 c10).2 rfl ?_
          refine q_goto (tgt := 43) dX12_sheet_132 (by decide) ?_
          refine q_kill (L' := [(2, 188), (0, kd), (0, v), (0, f), (0, st), (0, (q_w32 (v5 + (0 : Int)))), (0, (q_w32 (v6 + st))), (0, (v7 + 1)), (4, 0)]) 8 rfl ?_
          exact l20 c1 c3 c9 c10
