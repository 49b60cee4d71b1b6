theorem dX12_thrown_0 : decode cX12_thrown 0 = .ok (.aload_n 0, 1) := by decide +kernel
theorem dX12_thrown_1 : decode cX12_thrown 1 = .ok (.getfield 128, 3) := by decide +kernel
theorem dX12_thrown_4 : decode cX12_thrown 4 = .ok (.ireturn, 1) := by decide +kernel
theorem bkX12_thrown_0 {b : Int} {mem : qm} {Q : Int → qm → Prop}
    (l1 : Q (mem 188 17) mem) :
    q_At yX12_thrown cX12_thrown 1 (some .int) 1 0 0 (qK (q_rb b) Q) 0 [(2, 188)] [] (q_sh0, q_rb b, mem) := by
  refine q_aload_n dX12_thrown_0 rfl rfl ?_
  refine qx_getI (ci := 12) (k := 17) (v := (mem 188 17)) dX12_thrown_1 rfl rfl rfl tw1200 rfl qs188 rfl ?_
  exact q_iret dX12_thrown_4 (qK_i (l1))
theorem spX12_thrown {b : Int} {mem : qm} : q_Ev yX12_thrown cX12_thrown 1 (some .int) 1 0 0 [(2, 188)] (q_sh0, q_rb b, mem) (qK (q_rb b) (fun r m => m = mem ∧ r = (mem 188 17))) := by
  refine q_enter (by decide +kernel) (by simp) (Nat.le_of_ble_eq_true rfl) ?_
  exact bkX12_thrown_0 (by intros; exact ⟨rfl, by first | rfl | omega⟩)
theorem dX12_in_0 : decode cX12_in 0 = .ok (.iload_n 0, 1) := by decide +kernel
theorem dX12_in_1 : decode cX12_in 1 = .ok (.iload_n 1, 1) := by decide +kernel
theorem dX12_in_2 : decode cX12_in 2 = .ok (.if_icmp .lt 12, 3) := by decide +kernel
theorem dX12_in_5 : decode cX12_in 5 = .ok (.iload_n 0, 1) := by decide +kernel
theorem dX12_in_6 : decode cX12_in 6 = .ok (.iload_n 2, 1) := by decide +kernel
theorem dX12_in_7 : decode cX12_in 7 = .ok (.if_icmp .gt 7, 3) := by decide +kernel
theorem dX12_in_10 : decode cX12_in 10 = .ok (.iconst 1, 1) := by decide +kernel
theorem dX12_in_11 : decode cX12_in 11 = .ok (.goto 4, 3) := by decide +kernel
theorem dX12_in_14 : decode cX12_in 14 = .ok (.iconst 0, 1) := by decide +kernel
theorem dX12_in_15 : decode cX12_in 15 = .ok (.ireturn, 1) := by decide +kernel
theorem bkX12_in_0 {b : Int} {mem : qm} {Q : Int → qm → Prop}
    {v lo hi : Int}
    (l1 : v < lo → Q 0 mem)
    (l2 : lo ≤ v → hi < v → Q 0 mem)
    (l3 : lo ≤ v → v ≤ hi → Q 1 mem) :
    q_At yX12_in cX12_in 3 (some .boolean) 1 0 0 (qK (q_rb b) Q) 0 [(0, v), (0, lo), (0, hi)] [] (q_sh0, q_rb b, mem) := by
  refine q_iload_n dX12_in_0 rfl rfl ?_
  refine q_iload_n dX12_in_1 rfl rfl ?_
  refine qx_icmp_lt (tgt := 14) dX12_in_2 (by decide) (fun c1 => ?_) (fun c1 => ?_)
  · skip
    refine qx_iconst dX12_in_14 rfl rfl ?_
    exact q_zret dX12_in_15 (by decide) (qK_i (l1 c1))
  · skip
    refine q_iload_n dX12_in_5 rfl rfl ?_
    refine q_iload_n dX12_in_6 rfl rfl ?_
    refine qx_icmp_gt (tgt := 14) dX12_in_7 (by decide) (fun c2 => ?_) (fun c2 => ?_)
    · skip
      refine qx_iconst dX12_in_14 rfl rfl ?_
      exact q_zret dX12_in_15 (by decide) (qK_i (l2 c1 c2))
    · skip
      refine qx_iconst dX12_in_10 rfl rfl ?_
      refine q_goto (tgt := 15) dX12_in_11 (by decide) ?_
      exact q_zret dX12_in_15 (by decide) (qK_i (l3 c1 c2))
theorem spX12_in {b v lo hi : Int} {mem : qm} : q_Ev yX12_in cX12_in 3 (some .boolean) 1 0 0 [(0, v), (0, lo), (0, hi)] (q_sh0, q_rb b, mem) (qK (q_rb b) (fun r m => m = mem ∧ ((r = 1 ∧ (lo ≤ v ∧ v ≤ hi)) ∨ (r = 0 ∧ ¬ (lo ≤ v ∧ v ≤ hi))))) := by
  refine q_enter (by decide +kernel) (by simp) (Nat.le_of_ble_eq_true rfl) ?_
  exact bkX12_in_0 (by intros; refine ⟨rfl, ?_⟩; first | exact Or.inl ⟨rfl, by omega⟩ | exact Or.inr ⟨rfl, by omega⟩) (by intros; refine ⟨rfl, ?_⟩; first | exact Or.inl ⟨rfl, by omega⟩ | exact Or.inr ⟨rfl, by omega⟩) (by intros; refine ⟨rfl, ?_⟩; first | exact Or.inl ⟨rfl, by omega⟩ | exact Or.inr ⟨rfl, by omega⟩)
theorem dX12_isJar_0 : decode cX12_isJar 0 = .ok (.iload_n 1, 1) := by decide +kernel
theorem dX12_isJar_1 : decode cX12_isJar 1 = .ok (.iconst 0, 1) := by decide +kernel
theorem dX12_isJar_2 : decode cX12_isJar 2 = .ok (.aload_n 0, 1) := by decide +kernel
theorem dX12_isJar_3 : decode cX12_isJar 3 = .ok (.getfield 134, 3) := by decide +kernel
theorem dX12_isJar_6 : decode cX12_isJar 6 = .ok (.iconst 1, 1) := by decide +kernel
theorem dX12_isJar_7 : decode cX12_isJar 7 = .ok (.isub, 1) := by decide +kernel
theorem dX12_isJar_8 : decode cX12_isJar 8 = .ok (.invokestatic 137, 3) := by decide +kernel
theorem dX12_isJar_11 : decode cX12_isJar 11 = .ok (.ireturn, 1) := by decide +kernel
theorem bkX12_isJar_0 {b : Int} {mem : qm} {Q : Int → qm → Prop}
    {j : Int}
    (o1 : q_in32 ((mem 188 0) - 1))
    (l2 : (0 ≤ j ∧ j ≤ ((mem 188 0) - 1)) → Q 1 mem)
    (l3 : ¬ (0 ≤ j ∧ j ≤ ((mem 188 0) - 1)) → Q 0 mem) :
    q_At yX12_isJar cX12_isJar 2 (some .boolean) 2 0 0 (qK (q_rb b) Q) 0 [(2, 188), (0, j)] [] (q_sh0, q_rb b, mem) := by
  refine q_iload_n dX12_isJar_0 rfl rfl ?_
  refine qx_iconst dX12_isJar_1 rfl rfl ?_
  refine q_aload_n dX12_isJar_2 rfl rfl ?_
  refine qx_getI (ci := 12) (k := 0) (v := (mem 188 0)) dX12_isJar_3 rfl rfl rfl tw1183 rfl qs188 rfl ?_
  refine qx_iconst dX12_isJar_6 rfl rfl ?_
  refine qx_isub dX12_isJar_7 (o1) ?_
  refine qx_invS [(0, j), (0, 0), (0, ((mem 188 0) - 1))] [(0, ((mem 188 0) - 1)), (0, 0), (0, j)] rfl qM_X12_in dX12_isJar_8 tw1362 rfl rfl rfl rfl (spX12_in) (fun r1 m1 p1 q1 => ?_)
  obtain ⟨p1e, ⟨p1f, p1⟩ | ⟨p1f, p1⟩⟩ := p1
  · rw [p1e, p1f]
    exact q_zret dX12_isJar_11 (by decide) (qK_i (l2 p1))
  · rw [p1e, p1f]
    exact q_zret dX12_isJar_11 (by decide) (qK_i (l3 p1))
theorem spX12_isJar {b j : Int} {mem : qm} (g0 : q_in32 ((mem 188 0) - 1)) : q_Ev yX12_isJar cX12_isJar 2 (some .boolean) 2 0 0 [(2, 188), (0, j)] (q_sh0, q_rb b, mem) (qK (q_rb b) (fun r m => m = mem ∧ ((r = 1 ∧ (0 ≤ j ∧ j ≤ (mem 188 0) - 1)) ∨ (r = 0 ∧ ¬ (0 ≤ j ∧ j ≤ (mem 188 0) - 1))))) := by
  refine q_enter (by decide +kernel) (by simp) (Nat.le_of_ble_eq_true rfl) ?_
  exact bkX12_isJar_0 (by intros; assumption) (by intros; refine ⟨rfl, ?_⟩; first | exact Or.inl ⟨rfl, by omega⟩ | exact Or.inr ⟨rfl, by omega⟩) (by intros; refine ⟨rfl, ?_⟩; first | exact Or.inl ⟨rfl, by omega⟩ | exact Or.inr ⟨rfl, by omega⟩)
theorem dX12_isOwner_0 : decode cX12_isOwner 0 = .ok (.iload_n 0, 1) := by decide +kernel
theorem dX12_isOwner_1 : decode cX12_isOwner 1 = .ok (.iconst 0, 1) := by decide +kernel
theorem dX12_isOwner_2 : decode cX12_isOwner 2 = .ok (.iconst 5, 1) := by decide +kernel
theorem dX12_isOwner_3 : decode cX12_isOwner 3 = .ok (.invokestatic 137, 3) := by decide +kernel
theorem dX12_isOwner_6 : decode cX12_isOwner 6 = .ok (.ireturn, 1) := by decide +kernel
theorem bkX12_isOwner_0 {b : Int} {mem : qm} {Q : Int → qm → Prop}
    {a : Int}
    (l1 : (0 ≤ a ∧ a ≤ 5) → Q 1 mem)
    (l2 : ¬ (0 ≤ a ∧ a ≤ 5) → Q 0 mem) :
    q_At yX12_isOwner cX12_isOwner 1 (some .boolean) 2 0 0 (qK (q_rb b) Q) 0 [(0, a)] [] (q_sh0, q_rb b, mem) := by
  refine q_iload_n dX12_isOwner_0 rfl rfl ?_
  refine qx_iconst dX12_isOwner_1 rfl rfl ?_
  refine qx_iconst dX12_isOwner_2 rfl rfl ?_
  refine qx_invS [(0, a), (0, 0), (0, 5)] [(0, 5), (0, 0), (0, a)] rfl qM_X12_in dX12_isOwner_3 tw1362 rfl rfl rfl rfl (spX12_in) (fun r1 m1 p1 q1 => ?_)
  obtain ⟨p1e, ⟨p1f, p1⟩ | ⟨p1f, p1⟩⟩ := p1
  · rw [p1e, p1f]
    exact q_zret dX12_isOwner_6 (by decide) (qK_i (l1 p1))
  · rw [p1e, p1f]
    exact q_zret dX12_isOwner_6 (by decide) (qK_i (l2 p1))
theorem spX12_isOwner {b a : Int} {mem : qm} : q_Ev yX12_isOwner cX12_isOwner 1 (some .boolean) 2 0 0 [(0, a)] (q_sh0, q_rb b, mem) (qK (q_rb b) (fun r m => m = mem ∧ ((r = 1 ∧ (0 ≤ a ∧ a ≤ 5)) ∨ (r = 0 ∧ ¬ (0 ≤ a ∧ a ≤ 5))))) := by
  refine q_enter (by decide +kernel) (by simp) (Nat.le_of_ble_eq_true rfl) ?_
  exact bkX12_isOwner_0 (by intros; refine ⟨rfl, ?_⟩; first | exact Or.inl ⟨rfl, by omega⟩ | exact Or.inr ⟨rfl, by omega⟩) (by intros; refine ⟨rfl, ?_⟩; first | exact Or.inl ⟨rfl, by omega⟩ | exact Or.inr ⟨rfl, by omega⟩)
theorem dX12_isOrigin_0 : decode cX12_isOrigin 0 = .ok (.iload_n 0, 1) := by decide +kernel
theorem dX12_isOrigin_1 : decode cX12_isOrigin 1 = .ok (.iconst 0, 1) := by decide +kernel
theorem dX12_isOrigin_2 : decode cX12_isOrigin 2 = .ok (.bipush 6, 2) := by decide +kernel
theorem dX12_isOrigin_4 : decode cX12_isOrigin 4 = .ok (.invokestatic 137, 3) := by decide +kernel
theorem dX12_isOrigin_7 : decode cX12_isOrigin 7 = .ok (.ireturn, 1) := by decide +kernel
theorem bkX12_isOrigin_0 {b : Int} {mem : qm} {Q : Int → qm → Prop}
    {a : Int}
    (l1 : (0 ≤ a ∧ a ≤ 6) → Q 1 mem)
    (l2 : ¬ (0 ≤ a ∧ a ≤ 6) → Q 0 mem) :
    q_At yX12_isOrigin cX12_isOrigin 1 (some .boolean) 2 0 0 (qK (q_rb b) Q) 0 [(0, a)] [] (q_sh0, q_rb b, mem) := by
  refine q_iload_n dX12_isOrigin_0 rfl rfl ?_
  refine qx_iconst dX12_isOrigin_1 rfl rfl ?_
  refine qx_bipush dX12_isOrigin_2 rfl rfl ?_
  refine qx_invS [(0, a), (0, 0), (0, 6)] [(0, 6), (0, 0), (0, a)] rfl qM_X12_in dX12_isOrigin_4 tw1362 rfl rfl rfl rfl (spX12_in) (fun r1 m1 p1 q1 => ?_)
  obtain ⟨p1e, ⟨p1f, p1⟩ | ⟨p1f, p1⟩⟩ := p1
  · rw [p1e, p1f]
    exact q_zret dX12_isOrigin_7 (by decide) (qK_i (l1 p1))
  · rw [p1e, p1f]
    exact q_zret dX12_isOrigin_7 (by decide) (qK_i (l2 p1))
theorem spX12_isOrigin {b a : Int} {mem : qm} : q_Ev yX12_isOrigin cX12_isOrigin 1 (some .boolean) 2 0 0 [(0, a)] (q_sh0, q_rb b, mem) (qK (q_rb b) (fun r m => m = mem ∧ ((r = 1 ∧ (0 ≤ a ∧ a ≤ 6)) ∨ (r = 0 ∧ ¬ (0 ≤ a ∧ a ≤ 6))))) := by
  refine q_enter (by decide +kernel) (by simp) (Nat.le_of_ble_eq_true rfl) ?_
  exact bkX12_isOrigin_0 (by intros; refine ⟨rfl, ?_⟩; first | exact Or.inl ⟨rfl, by omega⟩ | exact Or.inr ⟨rfl, by omega⟩) (by intros; refine ⟨rfl, ?_⟩; first | exact Or.inl ⟨rfl, by omega⟩ | exact Or.inr ⟨rfl, by omega⟩)
theorem dX12_isAhead_0 : decode cX12_isAhead 0 = .ok (.iload_n 0, 1) := by decide +kernel
theorem dX12_isAhead_1 : decode cX12_isAhead 1 = .ok (.iconst 0, 1) := by decide +kernel
theorem dX12_isAhead_2 : decode cX12_isAhead 2 = .ok (.sipush 200, 3) := by decide +kernel
theorem dX12_isAhead_5 : decode cX12_isAhead 5 = .ok (.invokestatic 137, 3) := by decide +kernel
theorem dX12_isAhead_8 : decode cX12_isAhead 8 = .ok (.ireturn, 1) := by decide +kernel
theorem bkX12_isAhead_0 {b : Int} {mem : qm} {Q : Int → qm → Prop}
    {a : Int}
    (l1 : (0 ≤ a ∧ a ≤ 200) → Q 1 mem)
    (l2 : ¬ (0 ≤ a ∧ a ≤ 200) → Q 0 mem) :
    q_At yX12_isAhead cX12_isAhead 1 (some .boolean) 2 0 0 (qK (q_rb b) Q) 0 [(0, a)] [] (q_sh0, q_rb b, mem) := by
  refine q_iload_n dX12_isAhead_0 rfl rfl ?_
  refine qx_iconst dX12_isAhead_1 rfl rfl ?_
  refine qx_sipush dX12_isAhead_2 rfl rfl ?_
  refine qx_invS [(0, a), (0, 0), (0, 200)] [(0, 200), (0, 0), (0, a)] rfl qM_X12_in dX12_isAhead_5 tw1362 rfl rfl rfl rfl (spX12_in) (fun r1 m1 p1 q1 => ?_)
  obtain ⟨p1e, ⟨p1f, p1⟩ | ⟨p1f, p1⟩⟩ := p1
  · rw [p1e, p1f]
    exact q_zret dX12_isAhead_8 (by decide) (qK_i (l1 p1))
  · rw [p1e, p1f]
    exact q_zret dX12_isAhead_8 (by decide) (qK_i (l2 p1))
theorem spX12_isAhead {b a : Int} {mem : qm} : q_Ev yX12_isAhead cX12_isAhead 1 (some .boolean) 2 0 0 [(0, a)] (q_sh0, q_rb b, mem) (qK (q_rb b) (fun r m => m = mem ∧ ((r = 1 ∧ (0 ≤ a ∧ a ≤ 200)) ∨ (r = 0 ∧ ¬ (0 ≤ a ∧ a ≤ 200))))) := by
  refine q_enter (by decide +kernel) (by simp) (Nat.le_of_ble_eq_true rfl) ?_
  exact bkX12_isAhead_0 (by intros; refine ⟨rfl, ?_⟩; first | exact Or.inl ⟨rfl, by omega⟩ | exact Or.inr ⟨rfl, by omega⟩) (by intros; refine ⟨rfl, ?_⟩; first | exact Or.inl ⟨rfl, by omega⟩ | exact Or.inr ⟨rfl, by omega⟩)
theorem dX12_areOwners_0 : decode cX12_areOwners 0 = .ok (.iload_n 0, 1) := by decide +kernel
theorem dX12_areOwners_1 : decode cX12_areOwners 1 = .ok (.invokestatic 141, 3) := by decide +kernel
theorem dX12_areOwners_4 : decode cX12_areOwners 4 = .ok (.ifCond .eq 19, 3) := by decide +kernel
theorem dX12_areOwners_7 : decode cX12_areOwners 7 = .ok (.iload_n 1, 1) := by decide +kernel
theorem dX12_areOwners_8 : decode cX12_areOwners 8 = .ok (.invokestatic 141, 3) := by decide +kernel
theorem dX12_areOwners_11 : decode cX12_areOwners 11 = .ok (.ifCond .eq 12, 3) := by decide +kernel
theorem dX12_areOwners_14 : decode cX12_areOwners 14 = .ok (.iload_n 0, 1) := by decide +kernel
theorem dX12_areOwners_15 : decode cX12_areOwners 15 = .ok (.iload_n 1, 1) := by decide +kernel
theorem dX12_areOwners_16 : decode cX12_areOwners 16 = .ok (.if_icmp .eq 7, 3) := by decide +kernel
theorem dX12_areOwners_19 : decode cX12_areOwners 19 = .ok (.iconst 1, 1) := by decide +kernel
theorem dX12_areOwners_20 : decode cX12_areOwners 20 = .ok (.goto 4, 3) := by decide +kernel
theorem dX12_areOwners_23 : decode cX12_areOwners 23 = .ok (.iconst 0, 1) := by decide +kernel
theorem dX12_areOwners_24 : decode cX12_areOwners 24 = .ok (.ireturn, 1) := by decide +kernel
theorem bkX12_areOwners_0 {b : Int} {mem : qm} {Q : Int → qm → Prop}
    {a c : Int}
    (l1 : (0 ≤ a ∧ a ≤ 5) → (0 ≤ c ∧ c ≤ 5) → a = c → Q 0 mem)
    (l2 : (0 ≤ a ∧ a ≤ 5) → (0 ≤ c ∧ c ≤ 5) → a ≠ c → Q 1 mem)
    (l3 : (0 ≤ a ∧ a ≤ 5) → ¬ (0 ≤ c ∧ c ≤ 5) → Q 0 mem)
    (l4 : ¬ (0 ≤ a ∧ a ≤ 5) → Q 0 mem) :
    q_At yX12_areOwners cX12_areOwners 2 (some .boolean) 3 0 0 (qK (q_rb b) Q) 0 [(0, a), (0, c)] [] (q_sh0, q_rb b, mem) := by
  refine q_iload_n dX12_areOwners_0 rfl rfl ?_
  refine qx_invS [(0, a)] [(0, a)] rfl qM_X12_isOwner dX12_areOwners_1 tw1552 rfl rfl rfl rfl (spX12_isOwner) (fun r1 m1 p1 q1 => ?_)
  obtain ⟨p1e, ⟨p1f, p1⟩ | ⟨p1f, p1⟩⟩ := p1
  · rw [p1e, p1f]
    refine qx_if_eq (tgt := 23) dX12_areOwners_4 (by decide) (fun z => absurd z (by decide)) (fun _ => ?_)
    refine q_iload_n dX12_areOwners_7 rfl rfl ?_
    refine qx_invS [(0, c)] [(0, c)] rfl qM_X12_isOwner dX12_areOwners_8 tw1552 rfl rfl rfl rfl (spX12_isOwner) (fun r2 m2 p2 q2 => ?_)
    obtain ⟨p2e, ⟨p2f, p2⟩ | ⟨p2f, p2⟩⟩ := p2
    · rw [p2e, p2f]
      refine qx_if_eq (tgt := 23) dX12_areOwners_11 (by decide) (fun z => absurd z (by decide)) (fun _ => ?_)
      refine q_iload_n dX12_areOwners_14 rfl rfl ?_
      refine q_iload_n dX12_areOwners_15 rfl rfl ?_
      refine qx_icmp_eq (tgt := 23) dX12_areOwners_16 (by decide) (fun c3 => ?_) (fun c3 => ?_)
      · skip
        refine qx_iconst dX12_areOwners_23 rfl rfl ?_
        exact q_zret dX12_areOwners_24 (by decide) (qK_i (l1 p1 p2 c3))
      · skip
        refine qx_iconst dX12_areOwners_19 rfl rfl ?_
        refine q_goto (tgt := 24) dX12_areOwners_20 (by decide) ?_
        exact q_zret dX12_areOwners_24 (by decide) (qK_i (l2 p1 p2 c3))
    · rw [p2e, p2f]
      refine qx_if_eq (tgt := 23) dX12_areOwners_11 (by decide) (fun _ => ?_) (fun z => absurd z (by decide))
      refine qx_iconst dX12_areOwners_23 rfl rfl ?_
      exact q_zret dX12_areOwners_24 (by decide) (qK_i (l3 p1 p2))
  · rw [p1e, p1f]
    refine qx_if_eq (tgt := 23) dX12_areOwners_4 (by decide) (fun _ => ?_) (fun z => absurd z (by decide))
    refine qx_iconst dX12_areOwners_23 rfl rfl ?_
    exact q_zret dX12_areOwners_24 (by decide) (qK_i (l4 p1))
theorem spX12_areOwners {b a c : Int} {mem : qm} : q_Ev yX12_areOwners cX12_areOwners 2 (some .boolean) 3 0 0 [(0, a), (0, c)] (q_sh0, q_rb b, mem) (qK (q_rb b) (fun r m => m = mem ∧ ((r = 1 ∧ ((0 ≤ a ∧ a ≤ 5) ∧ (0 ≤ c ∧ c ≤ 5) ∧ a ≠ c)) ∨ (r = 0 ∧ ¬ ((0 ≤ a ∧ a ≤ 5) ∧ (0 ≤ c ∧ c ≤ 5) ∧ a ≠ c))))) := by
  refine q_enter (by decide +kernel) (by simp) (Nat.le_of_ble_eq_true rfl) ?_
  exact bkX12_areOwners_0 (by intros; refine ⟨rfl, ?_⟩; first | exact Or.inl ⟨rfl, by omega⟩ | exact Or.inr ⟨rfl, by omega⟩) (by intros; refine ⟨rfl, ?_⟩; first | exact Or.inl ⟨rfl, by omega⟩ | exact Or.inr ⟨rfl, by omega⟩) (by intros; refine ⟨rfl, ?_⟩; first | exact Or.inl ⟨rfl, by omega⟩ | exact Or.inr ⟨rfl, by omega⟩) (by intros; refine ⟨rfl, ?_⟩; first | exact Or.inl ⟨rfl, by omega⟩ | exact Or.inr ⟨rfl, by omega⟩)
theorem dX12_fine_0 : decode cX12_fine 0 = .ok (.aload_n 0, 1) := by decide +kernel
theorem dX12_fine_1 : decode cX12_fine 1 = .ok (.getfield 160, 3) := by decide +kernel
theorem dX12_fine_4 : decode cX12_fine 4 = .ok (.iconst (-1), 1) := by decide +kernel
theorem dX12_fine_5 : decode cX12_fine 5 = .ok (.if_icmp .ne 7, 3) := by decide +kernel
theorem dX12_fine_8 : decode cX12_fine 8 = .ok (.iconst 1, 1) := by decide +kernel
theorem dX12_fine_9 : decode cX12_fine 9 = .ok (.goto 4, 3) := by decide +kernel
theorem dX12_fine_12 : decode cX12_fine 12 = .ok (.iconst 0, 1) := by decide +kernel
theorem dX12_fine_13 : decode cX12_fine 13 = .ok (.ireturn, 1) := by decide +kernel
theorem bkX12_fine_0 {b : Int} {mem : qm} {Q : Int → qm → Prop}
    (l1 : (mem 188 22) ≠ (-1) → Q 0 mem)
    (l2 : (mem 188 22) = (-1) → Q 1 mem) :
    q_At yX12_fine cX12_fine 1 (some .boolean) 1 0 0 (qK (q_rb b) Q) 0 [(2, 188)] [] (q_sh0, q_rb b, mem) := by
  refine q_aload_n dX12_fine_0 rfl rfl ?_
  refine qx_getI (ci := 12) (k := 22) (v := (mem 188 22)) dX12_fine_1 rfl rfl rfl tw1205 rfl qs188 rfl ?_
  refine qx_iconst dX12_fine_4 rfl rfl ?_
  refine qx_icmp_ne (tgt := 12) dX12_fine_5 (by decide) (fun c1 => ?_) (fun c1 => ?_)
  · skip
    refine qx_iconst dX12_fine_12 rfl rfl ?_
    exact q_zret dX12_fine_13 (by decide) (qK_i (l1 c1))
  · skip
    refine qx_iconst dX12_fine_8 rfl rfl ?_
    refine q_goto (tgt := 13) dX12_fine_9 (by decide) ?_
    exact q_zret dX12_fine_13 (by decide) (qK_i (l2 c1))
theorem spX12_fine {b : Int} {mem : qm} : q_Ev yX12_fine cX12_fine 1 (some .boolean) 1 0 0 [(2, 188)] (q_sh0, q_rb b, mem) (qK (q_rb b) (fun r m => m = mem ∧ ((r = 1 ∧ ((mem 188 22) = -1)) ∨ (r = 0 ∧ ¬ ((mem 188 22) = -1))))) := by
  refine q_enter (by decide +kernel) (by simp) (Nat.le_of_ble_eq_true rfl) ?_
  exact bkX12_fine_0 (by intros; refine ⟨rfl, ?_⟩; first | exact Or.inl ⟨rfl, by omega⟩ | exact Or.inr ⟨rfl, by omega⟩) (by intros; refine ⟨rfl, ?_⟩; first | exact Or.inl ⟨rfl, by omega⟩ | exact Or.inr ⟨rfl, by omega⟩)
theorem dX11_isJar_0 : decode cX11_isJar 0 = .ok (.iload_n 1, 1) := by decide +kernel
theorem dX11_isJar_1 : decode cX11_isJar 1 = .ok (.ifCond .lt 18, 3) := by decide +kernel
theorem dX11_isJar_4 : decode cX11_isJar 4 = .ok (.iload_n 1, 1) := by decide +kernel
theorem dX11_isJar_5 : decode cX11_isJar 5 = .ok (.aload_n 0, 1) := by decide +kernel
theorem dX11_isJar_6 : decode cX11_isJar 6 = .ok (.getfield 10, 3) := by decide +kernel
theorem dX11_isJar_9 : decode cX11_isJar 9 = .ok (.getfield 173, 3) := by decide +kernel
theorem dX11_isJar_12 : decode cX11_isJar 12 = .ok (.if_icmp .ge 7, 3) := by decide +kernel
theorem dX11_isJar_15 : decode cX11_isJar 15 = .ok (.iconst 1, 1) := by decide +kernel
theorem dX11_isJar_16 : decode cX11_isJar 16 = .ok (.goto 4, 3) := by decide +kernel
theorem dX11_isJar_19 : decode cX11_isJar 19 = .ok (.iconst 0, 1) := by decide +kernel
theorem dX11_isJar_20 : decode cX11_isJar 20 = .ok (.ireturn, 1) := by decide +kernel
theorem bkX11_isJar_0 {b : Int} {mem : qm} {Q : Int → qm → Prop}
    {j : Int}
    (l1 : j < 0 → Q 0 mem)
    (l2 : 0 ≤ j → (mem 1 3) ≤ j → Q 0 mem)
    (l3 : 0 ≤ j → j < (mem 1 3) → Q 1 mem) :
    q_At yX11_isJar cX11_isJar 2 (some .boolean) 1 0 0 (qK (q_rb b) Q) 0 [(2, 0), (0, j)] [] (q_sh0, q_rb b, mem) := by
  refine q_iload_n dX11_isJar_0 rfl rfl ?_
  refine qx_if_lt (tgt := 19) dX11_isJar_1 (by decide) (fun c1 => ?_) (fun c1 => ?_)
  · skip
    refine qx_iconst dX11_isJar_19 rfl rfl ?_
    exact q_zret dX11_isJar_20 (by decide) (qK_i (l1 c1))
  · skip
    refine q_iload_n dX11_isJar_4 rfl rfl ?_
    refine q_aload_n dX11_isJar_5 rfl rfl ?_
    refine q_getR (ci := 11) (k := 0) dX11_isJar_6 rfl (by decide) rfl tw349 (by decide) qs0 qw0_0 (by decide) ?_
    refine qx_getI (ci := 9) (k := 3) (v := (mem 1 3)) dX11_isJar_9 rfl rfl rfl tw53 rfl qs1 rfl ?_
    refine qx_icmp_ge (tgt := 19) dX11_isJar_12 (by decide) (fun c2 => ?_) (fun c2 => ?_)
    · skip
      refine qx_iconst dX11_isJar_19 rfl rfl ?_
      exact q_zret dX11_isJar_20 (by decide) (qK_i (l2 c1 c2))
    · skip
      refine qx_iconst dX11_isJar_15 rfl rfl ?_
      refine q_goto (tgt := 20) dX11_isJar_16 (by decide) ?_
      exact q_zret dX11_isJar_20 (by decide) (qK_i (l3 c1 c2))
theorem spX11_isJar {b j : Int} {mem : qm} : q_Ev yX11_isJar cX11_isJar 2 (some .boolean) 1 0 0 [(2, 0), (0, j)] (q_sh0, q_rb b, mem) (qK (q_rb b) (fun r m => m = mem ∧ ((r = 1 ∧ (0 ≤ j ∧ j < (mem 1 3))) ∨ (r = 0 ∧ ¬ (0 ≤ j ∧ j < (mem 1 3)))))) := by
  refine q_enter (by decide +kernel) (by simp) (Nat.le_of_ble_eq_true rfl) ?_
  exact bkX11_isJar_0 (by intros; refine ⟨rfl, ?_⟩; first | exact Or.inl ⟨rfl, by omega⟩ | exact Or.inr ⟨rfl, by omega⟩) (by intros; refine ⟨rfl, ?_⟩; first | exact Or.inl ⟨rfl, by omega⟩ | exact Or.inr ⟨rfl, by omega⟩) (by intros; refine ⟨rfl, ?_⟩; first | exact Or.inl ⟨rfl, by omega⟩ | exact Or.inr ⟨rfl, by omega⟩)
theorem dX11_isSpan_0 : decode cX11_isSpan 0 = .ok (.iload_n 0, 1) := by decide +kernel
theorem dX11_isSpan_1 : decode cX11_isSpan 1 = .ok (.ifCond .lt 14, 3) := by decide +kernel
theorem dX11_isSpan_4 : decode cX11_isSpan 4 = .ok (.iload_n 0, 1) := by decide +kernel
theorem dX11_isSpan_5 : decode cX11_isSpan 5 = .ok (.sipush 200, 3) := by decide +kernel
theorem dX11_isSpan_8 : decode cX11_isSpan 8 = .ok (.if_icmp .gt 7, 3) := by decide +kernel
theorem dX11_isSpan_11 : decode cX11_isSpan 11 = .ok (.iconst 1, 1) := by decide +kernel
theorem dX11_isSpan_12 : decode cX11_isSpan 12 = .ok (.goto 4, 3) := by decide +kernel
theorem dX11_isSpan_15 : decode cX11_isSpan 15 = .ok (.iconst 0, 1) := by decide +kernel
theorem dX11_isSpan_16 : decode cX11_isSpan 16 = .ok (.ireturn, 1) := by decide +kernel
theorem bkX11_isSpan_0 {b : Int} {mem : qm} {Q : Int → qm → Prop}
    {n : Int}
    (l1 : n < 0 → Q 0 mem)
    (l2 : 0 ≤ n → 200 < n → Q 0 mem)
    (l3 : 0 ≤ n → n ≤ 200 → Q 1 mem) :
    q_At yX11_isSpan cX11_isSpan 1 (some .boolean) 1 0 0 (qK (q_rb b) Q) 0 [(0, n)] [] (q_sh0, q_rb b, mem) := by
  refine q_iload_n dX11_isSpan_0 rfl rfl ?_
  refine qx_if_lt (tgt := 15) dX11_isSpan_1 (by decide) (fun c1 => ?_) (fun c1 => ?_)
  · skip
    refine qx_iconst dX11_isSpan_15 rfl rfl ?_
    exact q_zret dX11_isSpan_16 (by decide) (qK_i (l1 c1))
  · skip
    refine q_iload_n dX11_isSpan_4 rfl rfl ?_
    refine qx_sipush dX11_isSpan_5 rfl rfl ?_
    refine qx_icmp_gt (tgt := 15) dX11_isSpan_8 (by decide) (fun c2 => ?_) (fun c2 => ?_)
    · skip
      refine qx_iconst dX11_isSpan_15 rfl rfl ?_
      exact q_zret dX11_isSpan_16 (by decide) (qK_i (l2 c1 c2))
    · skip
      refine qx_iconst dX11_isSpan_11 rfl rfl ?_
      refine q_goto (tgt := 16) dX11_isSpan_12 (by decide) ?_
      exact q_zret dX11_isSpan_16 (by decide) (qK_i (l3 c1 c2))
theorem spX11_isSpan {b n : Int} {mem : qm} : q_Ev yX11_isSpan cX11_isSpan 1 (some .boolean) 1 0 0 [(0, n)] (q_sh0, q_rb b, mem) (qK (q_rb b) (fun r m => m = mem ∧ ((r = 1 ∧ (0 ≤ n ∧ n ≤ 200)) ∨ (r = 0 ∧ ¬ (0 ≤ n ∧ n ≤ 200))))) := by
  refine q_enter (by decide +kernel) (by simp) (Nat.le_of_ble_eq_true rfl) ?_
  exact bkX11_isSpan_0 (by intros; refine ⟨rfl, ?_⟩; first | exact Or.inl ⟨rfl, by omega⟩ | exact Or.inr ⟨rfl, by omega⟩) (by intros; refine ⟨rfl, ?_⟩; first | exact Or.inl ⟨rfl, by omega⟩ | exact Or.inr ⟨rfl, by omega⟩) (by intros; refine ⟨rfl, ?_⟩; first | exact Or.inl ⟨rfl, by omega⟩ | exact Or.inr ⟨rfl, by omega⟩)
theorem dX11_isLevel_0 : decode cX11_isLevel 0 = .ok (.iload_n 0, 1) := by decide +kernel
theorem dX11_isLevel_1 : decode cX11_isLevel 1 = .ok (.ifCond .lt 13, 3) := by decide +kernel
theorem dX11_isLevel_4 : decode cX11_isLevel 4 = .ok (.iload_n 0, 1) := by decide +kernel
theorem dX11_isLevel_5 : decode cX11_isLevel 5 = .ok (.bipush 60, 2) := by decide +kernel
theorem dX11_isLevel_7 : decode cX11_isLevel 7 = .ok (.if_icmp .gt 7, 3) := by decide +kernel
theorem dX11_isLevel_10 : decode cX11_isLevel 10 = .ok (.iconst 1, 1) := by decide +kernel
theorem dX11_isLevel_11 : decode cX11_isLevel 11 = .ok (.goto 4, 3) := by decide +kernel
theorem dX11_isLevel_14 : decode cX11_isLevel 14 = .ok (.iconst 0, 1) := by decide +kernel
theorem dX11_isLevel_15 : decode cX11_isLevel 15 = .ok (.ireturn, 1) := by decide +kernel
theorem bkX11_isLevel_0 {b : Int} {mem : qm} {Q : Int → qm → Prop}
    {n : Int}
    (l1 : n < 0 → Q 0 mem)
    (l2 : 0 ≤ n → 60 < n → Q 0 mem)
    (l3 : 0 ≤ n → n ≤ 60 → Q 1 mem) :
    q_At yX11_isLevel cX11_isLevel 1 (some .boolean) 1 0 0 (qK (q_rb b) Q) 0 [(0, n)] [] (q_sh0, q_rb b, mem) := by
  refine q_iload_n dX11_isLevel_0 rfl rfl ?_
  refine qx_if_lt (tgt := 14) dX11_isLevel_1 (by decide) (fun c1 => ?_) (fun c1 => ?_)
  · skip
    refine qx_iconst dX11_isLevel_14 rfl rfl ?_
    exact q_zret dX11_isLevel_15 (by decide) (qK_i (l1 c1))
  · skip
    refine q_iload_n dX11_isLevel_4 rfl rfl ?_
    refine qx_bipush dX11_isLevel_5 rfl rfl ?_
    refine qx_icmp_gt (tgt := 14) dX11_isLevel_7 (by decide) (fun c2 => ?_) (fun c2 => ?_)
    · skip
      refine qx_iconst dX11_isLevel_14 rfl rfl ?_
      exact q_zret dX11_isLevel_15 (by decide) (qK_i (l2 c1 c2))
    · skip
      refine qx_iconst dX11_isLevel_10 rfl rfl ?_
      refine q_goto (tgt := 15) dX11_isLevel_11 (by decide) ?_
      exact q_zret dX11_isLevel_15 (by decide) (qK_i (l3 c1 c2))
theorem spX11_isLevel {b n : Int} {mem : qm} : q_Ev yX11_isLevel cX11_isLevel 1 (some .boolean) 1 0 0 [(0, n)] (q_sh0, q_rb b, mem) (qK (q_rb b) (fun r m => m = mem ∧ ((r = 1 ∧ (0 ≤ n ∧ n ≤ 60)) ∨ (r = 0 ∧ ¬ (0 ≤ n ∧ n ≤ 60))))) := by
  refine q_enter (by decide +kernel) (by simp) (Nat.le_of_ble_eq_true rfl) ?_
  exact bkX11_isLevel_0 (by intros; refine ⟨rfl, ?_⟩; first | exact Or.inl ⟨rfl, by omega⟩ | exact Or.inr ⟨rfl, by omega⟩) (by intros; refine ⟨rfl, ?_⟩; first | exact Or.inl ⟨rfl, by omega⟩ | exact Or.inr ⟨rfl, by omega⟩) (by intros; refine ⟨rfl, ?_⟩; first | exact Or.inl ⟨rfl, by omega⟩ | exact Or.inr ⟨rfl, by omega⟩)
theorem dX11_isOrigin_0 : decode cX11_isOrigin 0 = .ok (.iload_n 0, 1) := by decide +kernel
theorem dX11_isOrigin_1 : decode cX11_isOrigin 1 = .ok (.ifCond .lt 13, 3) := by decide +kernel
theorem dX11_isOrigin_4 : decode cX11_isOrigin 4 = .ok (.iload_n 0, 1) := by decide +kernel
theorem dX11_isOrigin_5 : decode cX11_isOrigin 5 = .ok (.bipush 7, 2) := by decide +kernel
theorem dX11_isOrigin_7 : decode cX11_isOrigin 7 = .ok (.if_icmp .ge 7, 3) := by decide +kernel
theorem dX11_isOrigin_10 : decode cX11_isOrigin 10 = .ok (.iconst 1, 1) := by decide +kernel
theorem dX11_isOrigin_11 : decode cX11_isOrigin 11 = .ok (.goto 4, 3) := by decide +kernel
theorem dX11_isOrigin_14 : decode cX11_isOrigin 14 = .ok (.iconst 0, 1) := by decide +kernel
theorem dX11_isOrigin_15 : decode cX11_isOrigin 15 = .ok (.ireturn, 1) := by decide +kernel
theorem bkX11_isOrigin_0 {b : Int} {mem : qm} {Q : Int → qm → Prop}
    {n : Int}
    (l1 : n < 0 → Q 0 mem)
    (l2 : 0 ≤ n → 7 ≤ n → Q 0 mem)
    (l3 : 0 ≤ n → n < 7 → Q 1 mem) :
    q_At yX11_isOrigin cX11_isOrigin 1 (some .boolean) 1 0 0 (qK (q_rb b) Q) 0 [(0, n)] [] (q_sh0, q_rb b, mem) := by
  refine q_iload_n dX11_isOrigin_0 rfl rfl ?_
  refine qx_if_lt (tgt := 14) dX11_isOrigin_1 (by decide) (fun c1 => ?_) (fun c1 => ?_)
  · skip
    refine qx_iconst dX11_isOrigin_14 rfl rfl ?_
    exact q_zret dX11_isOrigin_15 (by decide) (qK_i (l1 c1))
  · skip
    refine q_iload_n dX11_isOrigin_4 rfl rfl ?_
    refine qx_bipush dX11_isOrigin_5 rfl rfl ?_
    refine qx_icmp_ge (tgt := 14) dX11_isOrigin_7 (by decide) (fun c2 => ?_) (fun c2 => ?_)
    · skip
      refine qx_iconst dX11_isOrigin_14 rfl rfl ?_
      exact q_zret dX11_isOrigin_15 (by decide) (qK_i (l2 c1 c2))
    · skip
      refine qx_iconst dX11_isOrigin_10 rfl rfl ?_
      refine q_goto (tgt := 15) dX11_isOrigin_11 (by decide) ?_
      exact q_zret dX11_isOrigin_15 (by decide) (qK_i (l3 c1 c2))
theorem spX11_isOrigin {b n : Int} {mem : qm} : q_Ev yX11_isOrigin cX11_isOrigin 1 (some .boolean) 1 0 0 [(0, n)] (q_sh0, q_rb b, mem) (qK (q_rb b) (fun r m => m = mem ∧ ((r = 1 ∧ (0 ≤ n ∧ n < 7)) ∨ (r = 0 ∧ ¬ (0 ≤ n ∧ n < 7))))) := by
  refine q_enter (by decide +kernel) (by simp) (Nat.le_of_ble_eq_true rfl) ?_
  exact bkX11_isOrigin_0 (by intros; refine ⟨rfl, ?_⟩; first | exact Or.inl ⟨rfl, by omega⟩ | exact Or.inr ⟨rfl, by omega⟩) (by intros; refine ⟨rfl, ?_⟩; first | exact Or.inl ⟨rfl, by omega⟩ | exact Or.inr ⟨rfl, by omega⟩) (by intros; refine ⟨rfl, ?_⟩; first | exact Or.inl ⟨rfl, by omega⟩ | exact Or.inr ⟨rfl, by omega⟩)
theorem dX11_areTwoOwners_0 : decode cX11_areTwoOwners 0 = .ok (.iload_n 0, 1) := by decide +kernel
theorem dX11_areTwoOwners_1 : decode cX11_areTwoOwners 1 = .ok (.ifCond .lt 28, 3) := by decide +kernel
theorem dX11_areTwoOwners_4 : decode cX11_areTwoOwners 4 = .ok (.iload_n 0, 1) := by decide +kernel
theorem dX11_areTwoOwners_5 : decode cX11_areTwoOwners 5 = .ok (.bipush 6, 2) := by decide +kernel
theorem dX11_areTwoOwners_7 : decode cX11_areTwoOwners 7 = .ok (.if_icmp .ge 22, 3) := by decide +kernel
theorem dX11_areTwoOwners_10 : decode cX11_areTwoOwners 10 = .ok (.iload_n 1, 1) := by decide +kernel
theorem dX11_areTwoOwners_11 : decode cX11_areTwoOwners 11 = .ok (.ifCond .lt 18, 3) := by decide +kernel
theorem dX11_areTwoOwners_14 : decode cX11_areTwoOwners 14 = .ok (.iload_n 1, 1) := by decide +kernel
theorem dX11_areTwoOwners_15 : decode cX11_areTwoOwners 15 = .ok (.bipush 6, 2) := by decide +kernel
theorem dX11_areTwoOwners_17 : decode cX11_areTwoOwners 17 = .ok (.if_icmp .ge 12, 3) := by decide +kernel
theorem dX11_areTwoOwners_20 : decode cX11_areTwoOwners 20 = .ok (.iload_n 0, 1) := by decide +kernel
theorem dX11_areTwoOwners_21 : decode cX11_areTwoOwners 21 = .ok (.iload_n 1, 1) := by decide +kernel
theorem dX11_areTwoOwners_22 : decode cX11_areTwoOwners 22 = .ok (.if_icmp .eq 7, 3) := by decide +kernel
theorem dX11_areTwoOwners_25 : decode cX11_areTwoOwners 25 = .ok (.iconst 1, 1) := by decide +kernel
theorem dX11_areTwoOwners_26 : decode cX11_areTwoOwners 26 = .ok (.goto 4, 3) := by decide +kernel
theorem dX11_areTwoOwners_29 : decode cX11_areTwoOwners 29 = .ok (.iconst 0, 1) := by decide +kernel
theorem dX11_areTwoOwners_30 : decode cX11_areTwoOwners 30 = .ok (.ireturn, 1) := by decide +kernel
theorem bkX11_areTwoOwners_0 {b : Int} {mem : qm} {Q : Int → qm → Prop}
    {a c : Int}
    (l1 : a < 0 → Q 0 mem)
    (l2 : 0 ≤ a → 6 ≤ a → Q 0 mem)
    (l3 : 0 ≤ a → a < 6 → c < 0 → Q 0 mem)
    (l4 : 0 ≤ a → a < 6 → 0 ≤ c → 6 ≤ c → Q 0 mem)
    (l5 : 0 ≤ a → a < 6 → 0 ≤ c → c < 6 → a = c → Q 0 mem)
    (l6 : 0 ≤ a → a < 6 → 0 ≤ c → c < 6 → a ≠ c → Q 1 mem) :
    q_At yX11_areTwoOwners cX11_areTwoOwners 2 (some .boolean) 1 0 0 (qK (q_rb b) Q) 0 [(0, a), (0, c)] [] (q_sh0, q_rb b, mem) := by
  refine q_iload_n dX11_areTwoOwners_0 rfl rfl ?_
  refine qx_if_lt (tgt := 29) dX11_areTwoOwners_1 (by decide) (fun c1 => ?_) (fun c1 => ?_)
  · skip
    refine qx_iconst dX11_areTwoOwners_29 rfl rfl ?_
    exact q_zret dX11_areTwoOwners_30 (by decide) (qK_i (l1 c1))
  · skip
    refine q_iload_n dX11_areTwoOwners_4 rfl rfl ?_
    refine qx_bipush dX11_areTwoOwners_5 rfl rfl ?_
    refine qx_icmp_ge (tgt := 29) dX11_areTwoOwners_7 (by decide) (fun c2 => ?_) (fun c2 => ?_)
    · skip
      refine qx_iconst dX11_areTwoOwners_29 rfl rfl ?_
      exact q_zret dX11_areTwoOwners_30 (by decide) (qK_i (l2 c1 c2))
    · skip
      refine q_iload_n dX11_areTwoOwners_10 rfl rfl ?_
      refine qx_if_lt (tgt := 29) dX11_areTwoOwners_11 (by decide) (fun c3 => ?_) (fun c3 => ?_)
      · skip
        refine qx_iconst dX11_areTwoOwners_29 rfl rfl ?_
        exact q_zret dX11_areTwoOwners_30 (by decide) (qK_i (l3 c1 c2 c3))
      · skip
        refine q_iload_n dX11_areTwoOwners_14 rfl rfl ?_
        refine qx_bipush dX11_areTwoOwners_15 rfl rfl ?_
        refine qx_icmp_ge (tgt := 29) dX11_areTwoOwners_17 (by decide) (fun c4 => ?_) (fun c4 => ?_)
        · skip
          refine qx_iconst dX11_areTwoOwners_29 rfl rfl ?_
          exact q_zret dX11_areTwoOwners_30 (by decide) (qK_i (l4 c1 c2 c3 c4))
        · skip
          refine q_iload_n dX11_areTwoOwners_20 rfl rfl ?_
          refine q_iload_n dX11_areTwoOwners_21 rfl rfl ?_
          refine qx_icmp_eq (tgt := 29) dX11_areTwoOwners_22 (by decide) (fun c5 => ?_) (fun c5 => ?_)
          · skip
            refine qx_iconst dX11_areTwoOwners_29 rfl rfl ?_
            exact q_zret dX11_areTwoOwners_30 (by decide) (qK_i (l5 c1 c2 c3 c4 c5))
          · skip
            refine qx_iconst dX11_areTwoOwners_25 rfl rfl ?_
            refine q_goto (tgt := 30) dX11_areTwoOwners_26 (by decide) ?_
            exact q_zret dX11_areTwoOwners_30 (by decide) (qK_i (l6 c1 c2 c3 c4 c5))
theorem spX11_areTwoOwners {b a c : Int} {mem : qm} : q_Ev yX11_areTwoOwners cX11_areTwoOwners 2 (some .boolean) 1 0 0 [(0, a), (0, c)] (q_sh0, q_rb b, mem) (qK (q_rb b) (fun r m => m = mem ∧ ((r = 1 ∧ ((0 ≤ a ∧ a < 6) ∧ (0 ≤ c ∧ c < 6) ∧ a ≠ c)) ∨ (r = 0 ∧ ¬ ((0 ≤ a ∧ a < 6) ∧ (0 ≤ c ∧ c < 6) ∧ a ≠ c))))) := by
  refine q_enter (by decide +kernel) (by simp) (Nat.le_of_ble_eq_true rfl) ?_
  exact bkX11_areTwoOwners_0 (by intros; refine ⟨rfl, ?_⟩; first | exact Or.inl ⟨rfl, by omega⟩ | exact Or.inr ⟨rfl, by omega⟩) (by intros; refine ⟨rfl, ?_⟩; first | exact Or.inl ⟨rfl, by omega⟩ | exact Or.inr ⟨rfl, by omega⟩) (by intros; refine ⟨rfl, ?_⟩; first | exact Or.inl ⟨rfl, by omega⟩ | exact Or.inr ⟨rfl, by omega⟩) (by intros; refine ⟨rfl, ?_⟩; first | exact Or.inl ⟨rfl, by omega⟩ | exact Or.inr ⟨rfl, by omega⟩) (by intros; refine ⟨rfl, ?_⟩; first | exact Or.inl ⟨rfl, by omega⟩ | exact Or.inr ⟨rfl, by omega⟩) (by intros; refine ⟨rfl, ?_⟩; first | exact Or.inl ⟨rfl, by omega⟩ | exact Or.inr ⟨rfl, by omega⟩)
theorem dX11_clearRow_0 : decode cX11_clearRow 0 = .ok (.aload_n 0, 1) := by decide +kernel
theorem dX11_clearRow_1 : decode cX11_clearRow 1 = .ok (.iconst 0, 1) := by decide +kernel
theorem dX11_clearRow_2 : decode cX11_clearRow 2 = .ok (.putfield 414, 3) := by decide +kernel
theorem dX11_clearRow_5 : decode cX11_clearRow 5 = .ok (.return_, 1) := by decide +kernel
theorem bkX11_clearRow_0 {b : Int} {mem : qm} {Q : Int → qm → Prop}
    (l1 : Q 0 (q_up mem 0 16 0)) :
    q_At yX11_clearRow cX11_clearRow 1 none 1 0 0 (qK (q_rb b) Q) 0 [(2, 0)] [] (q_sh0, q_rb b, mem) := by
  refine q_aload_n dX11_clearRow_0 rfl rfl ?_
  refine qx_iconst dX11_clearRow_1 rfl rfl ?_
  refine q_putI (ci := 11) (k := 16) (kI := 16) (ty := .int) dX11_clearRow_2 rfl (by decide) rfl tw365 rfl rfl rfl (fun _ => ⟨rfl, rfl⟩) qs0 ?_
  exact q_vret dX11_clearRow_5 (qK_i (l1))
theorem spX11_clearRow {b : Int} {mem : qm} : q_Ev yX11_clearRow cX11_clearRow 1 none 1 0 0 [(2, 0)] (q_sh0, q_rb b, mem) (qK (q_rb b) (fun r m => m = (q_up mem 0 16 0))) := by
  refine q_enter (by decide +kernel) (by simp) (Nat.le_of_ble_eq_true rfl) ?_
  exact bkX11_clearRow_0 (by intros; first | rfl | (simp only [Int.add_zero]))
theorem dX11_roomIn_0 : decode cX11_roomIn 0 = .ok (.aload_n 0, 1) := by decide +kernel
theorem dX11_roomIn_1 : decode cX11_roomIn 1 = .ok (.getfield 10, 3) := by decide +kernel
theorem dX11_roomIn_4 : decode cX11_roomIn 4 = .ok (.getfield 145, 3) := by decide +kernel
theorem dX11_roomIn_7 : decode cX11_roomIn 7 = .ok (.iload_n 1, 1) := by decide +kernel
theorem dX11_roomIn_8 : decode cX11_roomIn 8 = .ok (.iaload, 1) := by decide +kernel
theorem dX11_roomIn_9 : decode cX11_roomIn 9 = .ok (.aload_n 0, 1) := by decide +kernel
theorem dX11_roomIn_10 : decode cX11_roomIn 10 = .ok (.getfield 19, 3) := by decide +kernel
theorem dX11_roomIn_13 : decode cX11_roomIn 13 = .ok (.getfield 142, 3) := by decide +kernel
theorem dX11_roomIn_16 : decode cX11_roomIn 16 = .ok (.iload_n 1, 1) := by decide +kernel
theorem dX11_roomIn_17 : decode cX11_roomIn 17 = .ok (.iaload, 1) := by decide +kernel
theorem dX11_roomIn_18 : decode cX11_roomIn 18 = .ok (.isub, 1) := by decide +kernel
theorem dX11_roomIn_19 : decode cX11_roomIn 19 = .ok (.ireturn, 1) := by decide +kernel
theorem bkX11_roomIn_0 {b : Int} {mem : qm} {Q : Int → qm → Prop}
    {j : Int}
    (o1 : (0 ≤ j ∧ j < 9) ∧ q_in32 ((mem 2 j) - (mem 8 j)))
    (l2 : Q ((mem 2 j) - (mem 8 j)) mem) :
    q_At yX11_roomIn cX11_roomIn 2 (some .int) 1 0 0 (qK (q_rb b) Q) 0 [(2, 0), (0, j)] [] (q_sh0, q_rb b, mem) := by
  refine q_aload_n dX11_roomIn_0 rfl rfl ?_
  refine q_getR (ci := 11) (k := 0) dX11_roomIn_1 rfl (by decide) rfl tw349 (by decide) qs0 qw0_0 (by decide) ?_
  refine q_getR (ci := 9) (k := 0) dX11_roomIn_4 rfl (by decide) rfl tw39 (by decide) qs1 qw1_0 (by decide) ?_
  refine q_iload_n dX11_roomIn_7 rfl rfl ?_
  refine qx_iald (v := (mem 2 j)) dX11_roomIn_8 qs2 (o1).1 rfl ?_
  refine q_aload_n dX11_roomIn_9 rfl rfl ?_
  refine q_getR (ci := 11) (k := 1) dX11_roomIn_10 rfl (by decide) rfl tw350 (by decide) qs0 qw0_1 (by decide) ?_
  refine q_getR (ci := 7) (k := 2) dX11_roomIn_13 rfl (by decide) rfl tw77 (by decide) qs5 qw5_2 (by decide) ?_
  refine q_iload_n dX11_roomIn_16 rfl rfl ?_
  refine qx_iald (v := (mem 8 j)) dX11_roomIn_17 qs8 (o1).1 rfl ?_
  refine qx_isub dX11_roomIn_18 (o1).2 ?_
  exact q_iret dX11_roomIn_19 (qK_i (l2))
theorem spX11_roomIn {b j : Int} {mem : qm} (g0 : (0 ≤ j ∧ j < 9) ∧ q_in32 ((mem 2 j) - (mem 8 j))) : q_Ev yX11_roomIn cX11_roomIn 2 (some .int) 1 0 0 [(2, 0), (0, j)] (q_sh0, q_rb b, mem) (qK (q_rb b) (fun r m => m = mem ∧ r = ((mem 2 j) - (mem 8 j)))) := by
  refine q_enter (by decide +kernel) (by simp) (Nat.le_of_ble_eq_true rfl) ?_
  exact bkX11_roomIn_0 (by intros; assumption) (by intros; exact ⟨rfl, by first | rfl | omega⟩)
