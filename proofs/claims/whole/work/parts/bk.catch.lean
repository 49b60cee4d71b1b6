/-! ===== jar and row throw; the law's own jar and row catch ===== -/
theorem tr_jar {b j v : Int} {m : qm} (h : ¬ ((0 ≤ j ∧ j < m 1 3) ∧ (0 ≤ v ∧ v ≤ 7))) : q_EvT yX11_jar cX11_jar 3 (some .int) 8 1 6 [(2, 0), (0, j), (0, v)] (q_sh0, q_rb b, m) (fun σ => σ = (q_sh0, q_rb b, m)) := by
  refine y_enter (by decide +kernel) (by simp) (Nat.le_of_ble_eq_true rfl) ?_
  refine q_g_aload_n dX11_jar_0 rfl rfl ?_
  refine q_g_iload_n dX11_jar_1 rfl rfl ?_
  refine q_g_invV (st := []) (c := 0) (kc := 1) (ks := 6) (kc' := 0) (ks' := 0) (ci := 11) [(0, j)] spX11_isJar qM_X11_isJar dX11_jar_2 tw576 rfl qs0 rfl (by decide) (by decide) (by decide) ?_
  rintro r σ ⟨m1, rfl, rfl, hr⟩ _ _
  refine q_g_if_ne (a := r) (st := []) (tgt := 18) dX11_jar_5 (by decide) (fun c1 => ?_) (fun c1 => ?_)
  · refine q_g_iload_n dX11_jar_18 rfl rfl ?_
    refine q_g_tabOut (tgt := 140) dX11_jar_19 (by omega) (by decide) ?_
    exact q_thr (len := 2) rfl dX11_jar_140 dX11_jar_143 (Or.inl ⟨dX11_jar_144, rfl⟩) dX11_jar_146 dX11_jar_149 (Or.inr (Or.inl rfl)) (by decide) rfl
  · exact q_thr (len := 2) rfl dX11_jar_8 dX11_jar_11 (Or.inl ⟨dX11_jar_12, rfl⟩) dX11_jar_14 dX11_jar_17 (Or.inl rfl) (by decide) rfl
theorem tr_row {b v : Int} {m : qm} (h : ¬ (0 ≤ v ∧ v < m 0 16)) : q_EvT yX11_row cX11_row 2 (some .int) 8 1 6 [(2, 0), (0, v)] (q_sh0, q_rb b, m) (fun σ => σ = (q_sh0, q_rb b, m)) := by
  have kt : q_AtG yX11_row cX11_row 2 (some .int) 8 1 6 y_G (y_KT (fun σ => σ = (q_sh0, q_rb b, m))) 12 [(2, 0), (0, v)] [] (q_sh0, q_rb b, m) := q_thr (len := 3) rfl dX11_row_12 dX11_row_15 (Or.inr ⟨dX11_row_16, rfl⟩) dX11_row_19 dX11_row_22 (Or.inr (Or.inr rfl)) (by decide) rfl
  refine y_enter (by decide +kernel) (by simp) (Nat.le_of_ble_eq_true rfl) ?_
  refine q_g_iload_n dX11_row_0 rfl rfl ?_
  refine q_g_if_lt (tgt := 12) dX11_row_1 (by decide) (fun c1 => kt) (fun c1 => ?_)
  refine q_g_iload_n dX11_row_4 rfl rfl ?_
  refine q_g_aload_n dX11_row_5 rfl rfl ?_
  refine q_g_getI (ci := 11) (k := 16) dX11_row_6 rfl (by decide) rfl tw365 rfl qs0 ?_
  refine q_g_icmp_lt (tgt := 23) dX11_row_9 (by decide) (fun c2 => ?_) (fun c2 => kt)
  exact absurd ⟨by omega, c2⟩ h
def q_KQ (rt : Option FieldType) (K : Int → qh → Prop) : qF := fun below args s mc ms D cid ad0 n0 A => MQ below (q_Q rt K D cid ad0 n0 A) args s mc ms A
theorem q_At.g {y : MethodName} {cc : ByteArray} {nL : Nat} {rt : Option FieldType} {d kc ks : Nat} {K : Int → qh → Prop} {G : Program → Launch → Env → State → MethodId → Code → (Nat → Prop) → Prop} {pc : Nat} {L st : List qv} {σ : qh} (h : q_At y cc nL rt d kc ks K pc L st σ) : q_AtG y cc nL rt d kc ks G (q_KQ rt K) pc L st σ :=
  fun p l e s m args below meth c H locs cells slots mc ms D cid ad0 ad n0 A ls C R hA hx hn hL hst hc hs _ => h p l e s m args below meth c H locs cells slots mc ms D cid ad0 ad n0 A ls C R hA hx hn hL hst hc hs
/-- a method that catches -/
def q_EvC (y : MethodName) (cc : ByteArray) (nL : Nat) (rt : Option FieldType) (hh : List (Nat × Nat × Nat × Nat)) (d kc ks : Nat) (args : List qv) (σ : qh) (K : Int → qh → Prop) : Prop :=
  ∀ (l : Launch), l.stackTraces = false → ∀ (D : va_G) (cid : Nat → ClassId) (ad : Nat → Nat) (sz : Nat), q_rg σ → (∀ v ∈ args, qok σ.1.length v) →
    Met l y (.codeWith y cc nL rt hh :: q_TB) (q_rm d kc ks) (y_Pc args σ D cid ad sz) (q_Q rt K D cid ad σ.1.length (va_A (q_ws cid ad σ) sz)) kc ks (va_A (q_ws cid ad σ) sz)
theorem z_enter {y : MethodName} {cc : ByteArray} {nL : Nat} {rt : Option FieldType} {hh : List (Nat × Nat × Nat × Nat)} {d kc ks : Nat} {K : Int → qh → Prop} {as : List qv} {σ : qh} (hy : plainName y.cls = true) (ha : ∀ v ∈ as, v.1 < 4 ∧ v.1 ≠ 1) (hl : as.length ≤ nL) (h : q_AtG y cc nL rt d kc ks (z_G hh) (q_KQ rt K) 0 (as ++ List.replicate (nL - as.length) (4, 0)) [] σ) : q_EvC y cc nL rt hh d kc ks as σ K := by
  intro l htr D cid ad sz hg hok
  refine va_MetW (cc := cc) (maxL := nL) (ret := rt) (hh := hh) hy rfl ?_
  intro p e s m args below meth c s₁ B hml hv
  obtain ⟨⟨rfl, hsz, hK, hP, hD, hX, hZ⟩, hY⟩ := hv
  subst hsz
  have hts := atoms_spec (ws := .codeWith y cc nL rt hh :: q_TB) B.pre
  have hown : s.vm.findClass y.cls = some m.cls := findClass_of_methodNamed B.named
  have X0 := Stand.of_body B
  have hex : c.exceptionTable.toList.map (fun h => (h.startPc, h.endPc, h.handlerPc, h.catchType)) = hh := by
    obtain ⟨m', meth', c', g0, g1, g2, -, -, g7, -⟩ := Cond.codeWith_spec (hts _ List.mem_cons_self)
    cases (B.named).symm.trans g0
    cases (B.method).symm.trans g1
    cases (X0.code).symm.trans g2
    exact g7
  have hle := q_sl_len (ad := ad) as ha
  have hl2 := lv_entry (as.map (qe ad)) (n := nL) (by rw [hle]; exact hl)
  rw [lg_entry_eq]
  refine h p l e s m _ below meth c s.heap [] 0 0 kc ks D cid ad ad σ.1.length _ _ ⟨B.exec, B.bytes, hml, B.returns, B.notSynchronized, (name_of_methodNamed B.named B.method).1, hown, fun w hw => hts w (List.mem_cons_of_mem _ hw)⟩ ⟨hK, hP, hD, va_S.rf, hg, hX, hZ⟩ (fun q hq => Or.inr hq) (fun _ _ => rfl) (Nat.le_refl _) ⟨q_lv_mono hl2 (fun q hq => ?_), fun v hv => ?_⟩ (fun v hv => by cases hv) (by omega) (by omega) ⟨htr, hex, hY⟩
  · obtain ⟨i, w⟩ := q
    obtain ⟨v, g1, g2, rfl⟩ := q_lv_mem.mp hq
    by_cases hi : i < as.length
    · rw [List.getElem?_append_left hi] at g1
      have := q_args_lv (ad := ad) as 0 ha i v g1
      rwa [Nat.zero_add] at this
    · rw [List.getElem?_append_right (by omega)] at g1
      have := List.mem_of_getElem? g1
      rw [(List.mem_replicate.mp this).2] at g2
      simp at g2
  · rcases List.mem_append.mp hv with h9 | h9
    · exact hok v h9
    · rw [(List.mem_replicate.mp h9).2]; trivial
theorem ty1095 : Cond.codeWith yL_jar cL_jar 5 (some .int) [(0, 10, 13, 13)] ∈ q_TB := q_t5 (List.mem_of_getElem? (i := 135) rfl) rfl
theorem ty1170 : Cond.codeWith yL_row cL_row 4 (some .int) [(0, 9, 12, 13)] ∈ q_TB := q_t5 (List.mem_of_getElem? (i := 210) rfl) rfl
theorem dL_jar_0 : decode cL_jar 0 = .ok (.aload_n 3, 1) := by decide +kernel
theorem dL_jar_1 : decode cL_jar 1 = .ok (.iconst 0, 1) := by decide +kernel
theorem dL_jar_2 : decode cL_jar 2 = .ok (.aload_n 0, 1) := by decide +kernel
theorem dL_jar_3 : decode cL_jar 3 = .ok (.iload_n 1, 1) := by decide +kernel
theorem dL_jar_4 : decode cL_jar 4 = .ok (.iload_n 2, 1) := by decide +kernel
theorem dL_jar_5 : decode cL_jar 5 = .ok (.invokevirtual 7, 3) := by decide +kernel
theorem dL_jar_8 : decode cL_jar 8 = .ok (.i2l, 1) := by decide +kernel
theorem dL_jar_9 : decode cL_jar 9 = .ok (.lastore, 1) := by decide +kernel
theorem dL_jar_10 : decode cL_jar 10 = .ok (.goto 7, 3) := by decide +kernel
theorem dL_jar_13 : decode cL_jar 13 = .ok (.astore 4, 2) := by decide +kernel
theorem dL_jar_15 : decode cL_jar 15 = .ok (.iconst 1, 1) := by decide +kernel
theorem dL_jar_16 : decode cL_jar 16 = .ok (.ireturn, 1) := by decide +kernel
theorem dL_jar_17 : decode cL_jar 17 = .ok (.iconst 0, 1) := by decide +kernel
theorem dL_jar_18 : decode cL_jar 18 = .ok (.ireturn, 1) := by decide +kernel
theorem dL_row_0 : decode cL_row 0 = .ok (.aload_n 2, 1) := by decide +kernel
theorem dL_row_1 : decode cL_row 1 = .ok (.iconst 0, 1) := by decide +kernel
theorem dL_row_2 : decode cL_row 2 = .ok (.aload_n 0, 1) := by decide +kernel
theorem dL_row_3 : decode cL_row 3 = .ok (.iload_n 1, 1) := by decide +kernel
theorem dL_row_4 : decode cL_row 4 = .ok (.invokevirtual 15, 3) := by decide +kernel
theorem dL_row_7 : decode cL_row 7 = .ok (.i2l, 1) := by decide +kernel
theorem dL_row_8 : decode cL_row 8 = .ok (.lastore, 1) := by decide +kernel
theorem dL_row_9 : decode cL_row 9 = .ok (.goto 6, 3) := by decide +kernel
theorem dL_row_12 : decode cL_row 12 = .ok (.astore_n 3, 1) := by decide +kernel
theorem dL_row_13 : decode cL_row 13 = .ok (.iconst 1, 1) := by decide +kernel
theorem dL_row_14 : decode cL_row 14 = .ok (.ireturn, 1) := by decide +kernel
theorem dL_row_15 : decode cL_row 15 = .ok (.iconst 0, 1) := by decide +kernel
theorem dL_row_16 : decode cL_row 16 = .ok (.ireturn, 1) := by decide +kernel
theorem lj_ok {b j v : Int} {m : qm} {P : Int → qm → Prop} (hE : q_Ev yX11_jar cX11_jar 3 (some .int) 4 0 0 [(2, 0), (0, j), (0, v)] (q_sh0, q_rb b, m) (qK (q_rb b) P)) : q_EvC yL_jar cL_jar 5 (some .int) [(0, 10, 13, 13)] 12 1 6 [(2, 0), (0, j), (0, v), (2, 225)] (q_sh0, q_rb b, m) (qK (q_rb b) (fun r m' => r = 0 ∧ ∃ r0 m1, P r0 m1 ∧ m' = q_up m1 225 0 r0)) := by
  refine z_enter (by decide +kernel) (by simp) (Nat.le_of_ble_eq_true rfl) (q_At.g ?_)
  refine q_aload_n dL_jar_0 rfl rfl ?_
  refine q_iconst (v := 0) dL_jar_1 rfl ⟨by decide, by decide⟩ ?_
  refine q_aload_n dL_jar_2 rfl rfl ?_
  refine q_iload_n dL_jar_3 rfl rfl ?_
  refine q_iload_n dL_jar_4 rfl rfl ?_
  refine qx_invV (c := 0) (ci := 11) (st := [(0, 0), (2, 225)]) [(0, j), (0, v)] _ rfl qM_X11_jar dL_jar_5 tw1097 rfl qs0 rfl rfl rfl rfl hE (fun r m1 h hr => ?_)
  refine q_i2l dL_jar_8 ?_
  refine q_last dL_jar_9 qs225 (by decide) (by decide) ?_
  refine q_goto (tgt := 17) dL_jar_10 (by decide) ?_
  refine q_iconst (v := 0) dL_jar_17 rfl ⟨by decide, by decide⟩ ?_
  exact q_iret dL_jar_18 (qK_i ⟨rfl, r, m1, h, rfl⟩)
theorem lj_thr {b j v : Int} {m : qm} (h : ¬ ((0 ≤ j ∧ j < m 1 3) ∧ (0 ≤ v ∧ v ≤ 7))) : q_EvC yL_jar cL_jar 5 (some .int) [(0, 10, 13, 13)] 12 1 6 [(2, 0), (0, j), (0, v), (2, 225)] (q_sh0, q_rb b, m) (qK (q_rb b) (fun r m' => r = 1 ∧ m' = m)) := by
  refine z_enter (by decide +kernel) (by simp) (Nat.le_of_ble_eq_true rfl) ?_
  refine q_g_aload_n dL_jar_0 rfl rfl ?_
  refine q_g_iconst (v := 0) dL_jar_1 rfl ⟨by decide, by decide⟩ ?_
  refine q_g_aload_n dL_jar_2 rfl rfl ?_
  refine q_g_iload_n dL_jar_3 rfl rfl ?_
  refine q_g_iload_n dL_jar_4 rfl rfl ?_
  refine q_catch (st := [(0, 0), (2, 225)]) (c := 0) (kc := 0) (ks := 0) (kc' := 1) (ks' := 6) (ci := 11) (i := 4) (len := 2) (s0 := 0) (s1 := 10) (hp := 13) (ct := 13) [(0, j), (0, v)] (tr_jar h) qM_X11_jar dL_jar_5 tw1097 rfl qs0 rfl (by decide) (by decide) (by decide) (by decide) (by decide) tw1096 (Or.inl ⟨dL_jar_13, rfl⟩) (by decide) rfl (fun w hw _ => by cases hw; decide) ?_
  rintro σ rfl _
  refine q_At.g ?_
  refine q_iconst (v := 1) dL_jar_15 rfl ⟨by decide, by decide⟩ ?_
  exact q_iret dL_jar_16 (qK_i ⟨rfl, rfl⟩)
theorem lr_ok {b v : Int} {m : qm} {P : Int → qm → Prop} (hE : q_Ev yX11_row cX11_row 2 (some .int) 1 0 0 [(2, 0), (0, v)] (q_sh0, q_rb b, m) (qK (q_rb b) P)) : q_EvC yL_row cL_row 4 (some .int) [(0, 9, 12, 13)] 12 1 6 [(2, 0), (0, v), (2, 225)] (q_sh0, q_rb b, m) (qK (q_rb b) (fun r m' => r = 0 ∧ ∃ r0 m1, P r0 m1 ∧ m' = q_up m1 225 0 r0)) := by
  refine z_enter (by decide +kernel) (by simp) (Nat.le_of_ble_eq_true rfl) (q_At.g ?_)
  refine q_aload_n dL_row_0 rfl rfl ?_
  refine q_iconst (v := 0) dL_row_1 rfl ⟨by decide, by decide⟩ ?_
  refine q_aload_n dL_row_2 rfl rfl ?_
  refine q_iload_n dL_row_3 rfl rfl ?_
  refine qx_invV (c := 0) (ci := 11) (st := [(0, 0), (2, 225)]) [(0, v)] _ rfl qM_X11_row dL_row_4 tw1171 rfl qs0 rfl rfl rfl rfl hE (fun r m1 h hr => ?_)
  refine q_i2l dL_row_7 ?_
  refine q_last dL_row_8 qs225 (by decide) (by decide) ?_
  refine q_goto (tgt := 15) dL_row_9 (by decide) ?_
  refine q_iconst (v := 0) dL_row_15 rfl ⟨by decide, by decide⟩ ?_
  exact q_iret dL_row_16 (qK_i ⟨rfl, r, m1, h, rfl⟩)
theorem lr_thr {b v : Int} {m : qm} (h : ¬ (0 ≤ v ∧ v < m 0 16)) : q_EvC yL_row cL_row 4 (some .int) [(0, 9, 12, 13)] 12 1 6 [(2, 0), (0, v), (2, 225)] (q_sh0, q_rb b, m) (qK (q_rb b) (fun r m' => r = 1 ∧ m' = m)) := by
  refine z_enter (by decide +kernel) (by simp) (Nat.le_of_ble_eq_true rfl) ?_
  refine q_g_aload_n dL_row_0 rfl rfl ?_
  refine q_g_iconst (v := 0) dL_row_1 rfl ⟨by decide, by decide⟩ ?_
  refine q_g_aload_n dL_row_2 rfl rfl ?_
  refine q_g_iload_n dL_row_3 rfl rfl ?_
  refine q_catch (st := [(0, 0), (2, 225)]) (c := 0) (kc := 0) (ks := 0) (kc' := 1) (ks' := 6) (ci := 11) (i := 3) (len := 1) (s0 := 0) (s1 := 9) (hp := 12) (ct := 13) [(0, v)] (tr_row h) qM_X11_row dL_row_4 tw1171 rfl qs0 rfl (by decide) (by decide) (by decide) (by decide) (by decide) tw1096 (Or.inr ⟨⟨3, dL_row_12, rfl⟩, rfl⟩) (by decide) rfl (fun w hw _ => by cases hw; decide) ?_
  rintro σ rfl _
  refine q_At.g ?_
  refine q_iconst (v := 1) dL_row_13 rfl ⟨by decide, by decide⟩ ?_
  exact q_iret dL_row_14 (qK_i ⟨rfl, rfl⟩)
