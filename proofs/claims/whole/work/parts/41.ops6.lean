/-! hole, below, owes, forget, end, seen -/
theorem i_O_of {LW : qm → Prop} {k : Nat} {r b : Int} {y : MethodName} {cc : ByteArray} {nL : Nat} {rt : Option FieldType} {d kc ks : Nat} {as : List qv} {σ : qh} (h : q_Ev y cc nL rt d kc ks as σ (qK (q_rb b) (fun r' m2 => r' = r ∧ i_I LW k m2))) : q_Ev y cc nL rt d kc ks as σ (i_O LW k r) := h.mono (fun r' σ ⟨m2, e, h1, h2⟩ => ⟨h1, b, m2, e, h2⟩)
/-- a refused call: nothing but the reference's 'thrown' is written -/
theorem i_I.no {LW : qm → Prop} (hL : i_Lf LW) {k : Nat} {m : qm} (I : i_I LW k m) : i_I LW (k + 1) (q_up m 188 17 0) := I.keep hL (X := fun c i => c = 188 ∧ i = 17) (q_fx.rf.up ⟨rfl, rfl⟩) (by intro c i; simp only [x_A, x_T, x_P, x_N, x_X, x_S, x_U, x_K, x_L, x_R]; omega)
abbrev x_Ho (c i : Int) : Prop := c = 10 ∨ c = 191 ∨ (c = 188 ∧ i = 17)
theorem op_hole {LW : qm → Prop} (hL : i_Lf LW) {k : Nat} {b : Int} {m : qm} (I : i_I LW k m) (j v : Int) :
    q_Ev yX11_hole cX11_hole 4 (some .int) 2 0 0 [(2, 0), (0, j), (0, v)] (q_sh0, q_rb b, m) (qK (q_rb b) (fun r m1 => q_Ev yX12_hole cX12_hole 4 (some .int) 3 0 0 [(2, 188), (0, j), (0, v)] (q_sh0, q_rb b, m1) (i_O LW (k + 1) r))) := by
  have I2 := I
  obtain ⟨n, t, p, a, x, r, s, u, kk, l⟩ := I2
  have t1 := t.1
  have t2 := t.2.1
  have t3 := t.2.2.1
  have hb : (1500 * (k : Int)) ≤ 1500 * ((k + 1 : Nat) : Int) := by omega
  have no : ¬ ((0 ≤ j ∧ j < n) ∧ 0 ≤ v ∧ v ≤ 9) → q_Ev yX12_hole cX12_hole 4 (some .int) 3 0 0 [(2, 188), (0, j), (0, v)] (q_sh0, q_rb b, m) (i_O LW (k + 1) (-1)) := by
    intro z
    refine i_O_of (b := b) (q_enter (by decide +kernel) (by simp) (Nat.le_of_ble_eq_true rfl) ?_)
    exact bkX12_hole_0 (q_in_of (by omega) (by omega)) (fun z1 z2 => absurd ⟨by omega, z2⟩ z) (fun z1 z2 => absurd ⟨by omega, z2⟩ z) (fun _ _ => ⟨rfl, I.no hL⟩) (fun _ => ⟨rfl, I.no hL⟩)
  refine q_enter (by decide +kernel) (by simp) (Nat.le_of_ble_eq_true rfl) ?_
  refine bkX11_hole_0 (fun z1 z2 => no (by omega)) (fun _ _ _ => by omega) (fun z1 z2 z3 => ?_) (fun z1 z2 z3 => no (by omega)) (fun z1 => no (by omega))
  have hj : 0 ≤ j ∧ j < n := by omega
  refine i_O_of (b := b) (q_enter (by decide +kernel) (by simp) (Nat.le_of_ble_eq_true rfl) ?_)
  have e0 : q_up m 10 j v 188 0 = n := (q_up_c (by decide)).trans t3
  refine bkX12_hole_0 (q_in_of (by omega) (by omega)) (fun _ _ => by omega) (fun _ _ => ⟨?_, ?_⟩) (fun _ z => absurd ⟨z2, z3⟩ z) (fun z => absurd (by omega) z)
  · rw [q_up_c (by decide)]; exact (p j hj.1 hj.2).1.symm
  · have hf : q_fx x_Ho m (q_up (q_up (q_up m 10 j v) 188 17 0) 191 j v) := ((q_fx.rf.up (by simp [x_Ho])).up (by simp [x_Ho])).up (by simp [x_Ho])
    refine ⟨n, t.fr hf (by intro c i; simp only [x_T, x_Ho]; omega), fun i i0 i1 => ?_, (a.fr hf (by intro c i; simp only [x_N, x_Ho]; omega)).mo hb, x.fr hf (by intro c i; simp only [x_X, x_Ho]; omega), r.fr hf (by intro c i; simp only [x_R, x_Ho]; omega), s.fr hf (by intro c i; simp only [x_S, x_Ho]; omega), (u.fr hf (by intro c i; simp only [x_U, x_Ho]; omega)).mo hb, (kk.fr hf (by intro c i; simp only [x_K, x_Ho]; omega)).mo hb, hL _ _ _ l hf (by intro c i; simp only [x_L, x_Ho]; omega)⟩
    have := p i i0 i1
    simp only [q_ups, Int.reduceEq, false_and, true_and, ite_false]
    by_cases hi : i = j
    · subst hi; simp only [ite_true]; exact ⟨trivial, z2, z3, this.2.2.2⟩
    · simp only [hi, ite_false]; exact this
abbrev x_Be (c i : Int) : Prop := c = 11 ∨ c = 194 ∨ (c = 188 ∧ i = 17)
theorem op_below {LW : qm → Prop} (hL : i_Lf LW) {k : Nat} {b : Int} {m : qm} (I : i_I LW k m) (j q : Int) :
    q_Ev yX11_below cX11_below 3 (some .boolean) 3 0 0 [(2, 0), (0, j), (0, q)] (q_sh0, q_rb b, m) (qK (q_rb b) (fun r m1 => q_Ev yX12_below cX12_below 3 (some .boolean) 3 0 0 [(2, 188), (0, j), (0, q)] (q_sh0, q_rb b, m1) (i_O LW (k + 1) r))) := by
  have I2 := I
  obtain ⟨n, t, p, a, x, r, s, u, kk, l⟩ := I2
  have t1 := t.1
  have t2 := t.2.1
  have t3 := t.2.2.1
  have hb : (1500 * (k : Int)) ≤ 1500 * ((k + 1 : Nat) : Int) := by omega
  have no : ¬ ((0 ≤ j ∧ j < n) ∧ (q = -1 ∨ ((0 ≤ q ∧ q < n) ∧ m 193 q < m 193 j))) → q_Ev yX12_below cX12_below 3 (some .boolean) 3 0 0 [(2, 188), (0, j), (0, q)] (q_sh0, q_rb b, m) (i_O LW (k + 1) 0) := by
    intro z
    refine i_O_of (b := b) (q_enter (by decide +kernel) (by simp) (Nat.le_of_ble_eq_true rfl) ?_)
    exact bkX12_below_0 (q_in_of (by omega) (by omega)) (fun z1 z2 => absurd ⟨by omega, Or.inl z2⟩ z) (fun z1 z2 => absurd ⟨by omega, Or.inl z2⟩ z) (fun _ _ _ => by omega) (fun z1 z2 z3 z4 => absurd ⟨by omega, Or.inr ⟨by omega, z4⟩⟩ z) (fun _ _ _ _ => ⟨rfl, I.no hL⟩) (fun _ _ _ => ⟨rfl, I.no hL⟩) (fun _ => ⟨rfl, I.no hL⟩)
  have yes : ((0 ≤ j ∧ j < n) ∧ (q = -1 ∨ ((0 ≤ q ∧ q < n) ∧ m 193 q < m 193 j))) → q_Ev yX12_below cX12_below 3 (some .boolean) 3 0 0 [(2, 188), (0, j), (0, q)] (q_sh0, q_rb b, q_up m 11 j q) (i_O LW (k + 1) 1) := by
    intro z
    have fin : i_I LW (k + 1) (q_up (q_up (q_up m 11 j q) 188 17 0) 194 j q) := by
      have hf : q_fx x_Be m (q_up (q_up (q_up m 11 j q) 188 17 0) 194 j q) := ((q_fx.rf.up (by simp [x_Be])).up (by simp [x_Be])).up (by simp [x_Be])
      refine ⟨n, t.fr hf (by intro c i; simp only [x_T, x_Be]; omega), fun i i0 i1 => ?_, (a.fr hf (by intro c i; simp only [x_N, x_Be]; omega)).mo hb, x.fr hf (by intro c i; simp only [x_X, x_Be]; omega), r.fr hf (by intro c i; simp only [x_R, x_Be]; omega), s.fr hf (by intro c i; simp only [x_S, x_Be]; omega), (u.fr hf (by intro c i; simp only [x_U, x_Be]; omega)).mo hb, (kk.fr hf (by intro c i; simp only [x_K, x_Be]; omega)).mo hb, hL _ _ _ l hf (by intro c i; simp only [x_L, x_Be]; omega)⟩
      have := p i i0 i1
      simp only [q_ups, Int.reduceEq, false_and, true_and, ite_false]
      by_cases hi : i = j
      · subst hi; simp only [ite_true]
        refine ⟨this.1, this.2.1, this.2.2.1, trivial, ?_⟩
        rcases z.2 with h | h
        · exact Or.inl h
        · exact Or.inr ⟨h.1.1, h.1.2, h.2⟩
      · simp only [hi, ite_false]; exact this
    have e0 : q_up m 11 j q 188 0 = n := (q_up_c (by decide)).trans t3
    have e1 : ∀ i, q_up m 11 j q 193 i = m 193 i := fun i => q_up_c (by decide)
    refine i_O_of (b := b) (q_enter (by decide +kernel) (by simp) (Nat.le_of_ble_eq_true rfl) ?_)
    refine bkX12_below_0 (q_in_of (by omega) (by omega)) (fun _ _ => by omega) (fun _ _ => ⟨rfl, fin⟩) (fun _ _ _ => by omega) (fun _ _ _ _ => ⟨rfl, fin⟩) (fun z1 z2 z3 z4 => ?_) (fun z1 z2 z3 => absurd (by omega) z3) (fun z1 => absurd (by omega) z1)
    rw [e1, e1] at z4
    omega
  have e4 : ∀ i : Int, 0 ≤ i → i < n → m 4 i = m 193 i := fun i i0 i1 => (t.2.2.2 i i0 i1).2.2.1
  refine q_enter (by decide +kernel) (by simp) (Nat.le_of_ble_eq_true rfl) ?_
  refine bkX11_below_0 (fun _ _ => by omega) (fun z1 z2 => yes ⟨by omega, Or.inl z2⟩) (fun z1 _ => ⟨by omega, z1⟩) (fun _ _ _ => by omega) (fun z1 z2 z3 => yes ⟨by omega, Or.inr ⟨by omega, ?_⟩⟩) (fun z1 z2 z3 => no (fun z => z3 ⟨by omega, ?_⟩)) (fun z1 => no (by omega))
  · rw [← e4 q (by omega) (by omega), ← e4 j (by omega) (by omega)]; exact z3.2
  · have hq : (0 ≤ q ∧ q < n) ∧ m 193 q < m 193 j := by omega
    rw [e4 q (by omega) (by omega), e4 j (by omega) (by omega)]; exact hq.2
theorem op_owes {LW : qm → Prop} (hL : i_Lf LW) {k : Nat} {b : Int} {m : qm} (I : i_I LW k m) (x y : Int) :
    q_Ev yX11_owes cX11_owes 3 (some .int) 2 0 0 [(2, 0), (0, x), (0, y)] (q_sh0, q_rb b, m) (qK (q_rb b) (fun r m1 => q_Ev yX12_owes cX12_owes 3 (some .int) 4 0 0 [(2, 188), (0, x), (0, y)] (q_sh0, q_rb b, m1) (i_O LW (k + 1) r))) := by
  have I2 := I
  obtain ⟨n, t, p, a, x', r, s, u, kk, l⟩ := I2
  refine q_enter (by decide +kernel) (by simp) (Nat.le_of_ble_eq_true rfl) ?_
  refine bkX11_owes_0 (fun z => ⟨q_in_of (by omega) (by omega), q_in_of (by omega) (by omega), by omega⟩) (fun z => ?_) (fun z => ?_)
  · refine i_O_of (b := b) (q_enter (by decide +kernel) (by simp) (Nat.le_of_ble_eq_true rfl) ?_)
    refine bkX12_owes_0 (fun z => ⟨q_in_of (by omega) (by omega), q_in_of (by omega) (by omega), by omega⟩) (fun _ => ⟨?_, I.no hL⟩) (fun z2 => absurd (by omega) z2)
    rw [show x * 6 + y = 6 * x + y by omega]
    exact (a.1.2.1 (6 * x + y) (by omega) (by omega)).symm
  · refine i_O_of (b := b) (q_enter (by decide +kernel) (by simp) (Nat.le_of_ble_eq_true rfl) ?_)
    exact bkX12_owes_0 (fun z2 => absurd (by omega) z) (fun z2 => absurd (by omega) z) (fun _ => ⟨rfl, I.no hL⟩)
abbrev x_Fo (c i : Int) : Prop := (c = 159 ∧ i = 3) ∨ (c = 188 ∧ (i = 17 ∨ i = 49))
theorem op_forget {LW : qm → Prop} (hL : i_Lf LW) {k : Nat} {b : Int} {m : qm} (I : i_I LW k m) :
    q_Ev yX11_forget cX11_forget 1 (some .int) 1 0 0 [(2, 0)] (q_sh0, q_rb b, m) (qK (q_rb b) (fun r m1 => q_Ev yX12_forget cX12_forget 1 (some .int) 1 0 0 [(2, 188)] (q_sh0, q_rb b, m1) (i_O LW (k + 1) r))) := by
  have I2 := I
  obtain ⟨n, t, p, a, x, r, s, u, kk, l⟩ := I2
  have hb : (1500 * (k : Int)) ≤ 1500 * ((k + 1 : Nat) : Int) := by omega
  have s1 := s.1
  have s2 := s.2.1
  have s3 := s.2.2.1
  refine q_enter (by decide +kernel) (by simp) (Nat.le_of_ble_eq_true rfl) ?_
  refine bkX11_forget_0 (fun _ => q_in_of (by omega) (by omega)) (fun z => ?_) (fun z => ?_)
  · have e0 : q_up m 159 3 (m 159 3 - 1) 188 49 = m 188 49 := q_up_c (by decide)
    refine i_O_of (b := b) (q_enter (by decide +kernel) (by simp) (Nat.le_of_ble_eq_true rfl) ?_)
    refine bkX12_forget_0 (fun _ => q_in_of (by omega) (by omega)) (fun _ => ⟨by omega, ?_⟩) (fun z2 => absurd z2 (by omega))
    have hf : q_fx x_Fo m (q_up (q_up (q_up m 159 3 (m 159 3 - 1)) 188 17 0) 188 49 (q_up m 159 3 (m 159 3 - 1) 188 49 - 1)) := ((q_fx.rf.up (by decide)).up (by decide)).up (by decide)
    refine ⟨n, t.fr hf (by intro c i; simp only [x_T, x_Fo]; omega), p.fr hf (by intro c i; simp only [x_P, x_Fo]; omega), (a.fr hf (by intro c i; simp only [x_N, x_Fo]; omega)).mo hb, x.fr hf (by intro c i; simp only [x_X, x_Fo]; omega), r.fr hf (by intro c i; simp only [x_R, x_Fo]; omega), ?_, (u.fr hf (by intro c i; simp only [x_U, x_Fo]; omega)).mo hb, (kk.fr hf (by intro c i; simp only [x_K, x_Fo]; omega)).mo hb, hL _ _ _ l hf (by intro c i; simp only [x_L, x_Fo]; omega)⟩
    unfold i_S
    simp only [q_ups, Int.reduceEq, false_and, true_and, and_self, and_false, ite_false, ite_true]
    exact ⟨by omega, by omega, by omega, fun i i0 i1 => s.2.2.2 i i0 (by omega)⟩
  · refine i_O_of (b := b) (q_enter (by decide +kernel) (by simp) (Nat.le_of_ble_eq_true rfl) ?_)
    exact bkX12_forget_0 (fun z2 => absurd (by omega) z2) (fun z2 => absurd (by omega) z2) (fun _ => ⟨rfl, I.no hL⟩)
abbrev x_En (c i : Int) : Prop := (c = 145 ∧ i = 1) ∨ (c = 188 ∧ (i = 17 ∨ i = 14))
theorem op_end {LW : qm → Prop} (hL : i_Lf LW) {k : Nat} {b : Int} {m : qm} (I : i_I LW k m) (v : Int) :
    q_Ev yX11_end cX11_end 2 (some .boolean) 1 0 0 [(2, 0), (0, v)] (q_sh0, q_rb b, m) (qK (q_rb b) (fun r m1 => q_Ev yX12_end cX12_end 2 (some .boolean) 2 0 0 [(2, 188), (0, v)] (q_sh0, q_rb b, m1) (i_O LW (k + 1) r))) := by
  have I2 := I
  obtain ⟨n, t, p, a, x, r, s, u, kk, l⟩ := I2
  have hb : (1500 * (k : Int)) ≤ 1500 * ((k + 1 : Nat) : Int) := by omega
  have x1 := x.1
  have x2 := x.2.1
  have x3 := x.2.2.1
  have no : ¬ (0 ≤ v ∧ v ≤ m 188 14) → q_Ev yX12_end cX12_end 2 (some .boolean) 2 0 0 [(2, 188), (0, v)] (q_sh0, q_rb b, m) (i_O LW (k + 1) 0) := by
    intro z
    refine i_O_of (b := b) (q_enter (by decide +kernel) (by simp) (Nat.le_of_ble_eq_true rfl) ?_)
    exact bkX12_end_0 (fun z2 => absurd z2 z) (fun _ => ⟨rfl, I.no hL⟩)
  refine q_enter (by decide +kernel) (by simp) (Nat.le_of_ble_eq_true rfl) ?_
  refine bkX11_end_0 (fun z => no (by omega)) (fun z1 z2 => ?_) (fun z1 z2 => no (by omega))
  have e0 : q_up m 145 1 v 188 14 = m 188 14 := q_up_c (by decide)
  refine i_O_of (b := b) (q_enter (by decide +kernel) (by simp) (Nat.le_of_ble_eq_true rfl) ?_)
  refine bkX12_end_0 (fun _ => ⟨rfl, ?_⟩) (fun z => absurd (by omega) z)
  have hf : q_fx x_En m (q_up (q_up (q_up m 145 1 v) 188 17 0) 188 14 v) := ((q_fx.rf.up (by decide)).up (by decide)).up (by decide)
  refine ⟨n, t.fr hf (by intro c i; simp only [x_T, x_En]; omega), p.fr hf (by intro c i; simp only [x_P, x_En]; omega), (a.fr hf (by intro c i; simp only [x_N, x_En]; omega)).mo hb, ?_, r.fr hf (by intro c i; simp only [x_R, x_En]; omega), s.fr hf (by intro c i; simp only [x_S, x_En]; omega), (u.fr hf (by intro c i; simp only [x_U, x_En]; omega)).mo hb, (kk.fr hf (by intro c i; simp only [x_K, x_En]; omega)).mo hb, hL _ _ _ l hf (by intro c i; simp only [x_L, x_En]; omega)⟩
  unfold i_X
  simp only [q_ups, Int.reduceEq, false_and, true_and, and_self, and_false, ite_false, ite_true]
  exact ⟨z1, by omega, fun i i0 i1 => x.2.2.2 i i0 (by omega)⟩
abbrev x_Se (c i : Int) : Prop := (c = 159 ∧ i = 3) ∨ (160 ≤ c ∧ c ≤ 162) ∨ (c = 188 ∧ (i = 17 ∨ i = 49)) ∨ c = 220
theorem op_seen {LW : qm → Prop} (hL : i_Lf LW) {k : Nat} {b : Int} {m : qm} (I : i_I LW k m) (j v w : Int) :
    q_Ev yX11_seen cX11_seen 4 (some .int) 2 0 0 [(2, 0), (0, j), (0, v), (0, w)] (q_sh0, q_rb b, m) (qK (q_rb b) (fun r m1 => q_Ev yX12_seen cX12_seen 4 (some .int) 3 0 0 [(2, 188), (0, j), (0, v), (0, w)] (q_sh0, q_rb b, m1) (i_O LW (k + 1) r))) := by
  have I2 := I
  obtain ⟨n, t, p, a, x, r, s, u, kk, l⟩ := I2
  have hb : (1500 * (k : Int)) ≤ 1500 * ((k + 1 : Nat) : Int) := by omega
  have t1 := t.1
  have t2 := t.2.1
  have t3 := t.2.2.1
  have s1 := s.1
  have s2 := s.2.1
  have s3 := s.2.2.1
  have no : ¬ ((0 ≤ j ∧ j < n) ∧ (0 ≤ v ∧ v ≤ 200) ∧ (0 ≤ w ∧ w ≤ 60) ∧ m 188 49 < 10) → q_Ev yX12_seen cX12_seen 4 (some .int) 3 0 0 [(2, 188), (0, j), (0, v), (0, w)] (q_sh0, q_rb b, m) (i_O LW (k + 1) (-1)) := by
    intro z
    refine i_O_of (b := b) (q_enter (by decide +kernel) (by simp) (Nat.le_of_ble_eq_true rfl) ?_)
    exact bkX12_seen_0 (q_in_of (by omega) (by omega)) (fun z1 z2 z3 z4 => absurd (by omega) z) (fun z1 z2 z3 z4 => absurd (by omega) z) (fun _ _ _ _ => ⟨rfl, I.no hL⟩) (fun _ _ _ => ⟨rfl, I.no hL⟩) (fun _ _ => ⟨rfl, I.no hL⟩) (fun _ => ⟨rfl, I.no hL⟩)
  refine q_enter (by decide +kernel) (by simp) (Nat.le_of_ble_eq_true rfl) ?_
  refine bkX11_seen_0 (P5 := fun _ m5 => m5 = q_up (q_up (q_up (q_up m 160 (m 159 3) j) 161 (m 159 3) v) 162 (m 159 3) w) 159 3 (m 159 3 + 1)) (fun z1 z2 z3 z4 => ?_) (fun z1 z2 z3 z4 r5 m5 h5 _ => ?_) (fun z1 z2 z3 z4 => no (by omega)) (fun z1 z2 z3 => no (by omega)) (fun z1 z2 => no (by omega)) (fun z1 => no (by omega))
  · refine q_enter (by decide +kernel) (by simp) (Nat.le_of_ble_eq_true rfl) ?_
    exact bkX5_add_0 (fun z => absurd z (by omega)) (fun _ => ⟨by omega, q_in_of (by omega) (by omega)⟩) (fun _ => rfl)
  · subst h5
    have e0 : q_up (q_up (q_up (q_up m 160 (m 159 3) j) 161 (m 159 3) v) 162 (m 159 3) w) 159 3 (m 159 3 + 1) 188 0 = n := by simp only [q_ups, Int.reduceEq, false_and, ite_false]; exact t3
    have e1 : q_up (q_up (q_up (q_up m 160 (m 159 3) j) 161 (m 159 3) v) 162 (m 159 3) w) 159 3 (m 159 3 + 1) 188 49 = m 188 49 := by simp only [q_ups, Int.reduceEq, false_and, ite_false]
    refine i_O_of (b := b) (q_enter (by decide +kernel) (by simp) (Nat.le_of_ble_eq_true rfl) ?_)
    refine bkX12_seen_0 (q_in_of (by omega) (by omega)) (fun _ _ _ _ => ?_) (fun _ _ _ _ => ⟨?_, ?_⟩) (fun _ _ _ z => absurd z (by omega)) (fun _ _ z => absurd z3 z) (fun _ z => absurd z2 z) (fun z => absurd (by omega) z)
    · rw [e1]
      refine ⟨q_in_of (by omega) (by omega), by omega, q_in_of (by omega) (by omega), by omega, q_in_of (by omega) (by omega), by omega, q_in_of (by omega) (by omega)⟩
    · rw [e1, q_up_s]; omega
    · rw [e1]
      generalize hm2 : q_up (q_up (q_up (q_up (q_up (q_up (q_up (q_up (q_up m 160 (m 159 3) j) 161 (m 159 3) v) 162 (m 159 3) w) 159 3 (m 159 3 + 1)) 188 17 0) 220 (3 * m 188 49) j) 220 (3 * m 188 49 + 1) v) 220 (3 * m 188 49 + 2) w) 188 49 (m 188 49 + 1) = m2
      have hf : q_fx x_Se m m2 := by rw [← hm2]; exact ((((((((q_fx.rf.up (by simp [x_Se])).up (by simp [x_Se])).up (by simp [x_Se])).up (by decide)).up (by decide)).up (by simp [x_Se])).up (by simp [x_Se])).up (by simp [x_Se])).up (by decide)
      refine ⟨n, t.fr hf (by intro c i; simp only [x_T, x_Se]; omega), p.fr hf (by intro c i; simp only [x_P, x_Se]; omega), (a.fr hf (by intro c i; simp only [x_N, x_Se]; omega)).mo hb, x.fr hf (by intro c i; simp only [x_X, x_Se]; omega), r.fr hf (by intro c i; simp only [x_R, x_Se]; omega), ?_, (u.fr hf (by intro c i; simp only [x_U, x_Se]; omega)).mo hb, (kk.fr hf (by intro c i; simp only [x_K, x_Se]; omega)).mo hb, hL _ _ _ l hf (by intro c i; simp only [x_L, x_Se]; omega)⟩
      have g49 : m2 188 49 = m 188 49 + 1 := by rw [← hm2, q_up_s]
      have g3 : m2 159 3 = m 159 3 + 1 := by rw [← hm2]; simp only [q_ups, Int.reduceEq, false_and, ite_false, and_self, ite_true]
      have gA : ∀ i, m2 160 i = if i = m 159 3 then j else m 160 i := fun i => by rw [← hm2]; simp only [q_ups, Int.reduceEq, false_and, true_and, ite_false]
      have gB : ∀ i, m2 161 i = if i = m 159 3 then v else m 161 i := fun i => by rw [← hm2]; simp only [q_ups, Int.reduceEq, false_and, true_and, ite_false]
      have gC : ∀ i, m2 162 i = if i = m 159 3 then w else m 162 i := fun i => by rw [← hm2]; simp only [q_ups, Int.reduceEq, false_and, true_and, ite_false]
      have gD : ∀ i, m2 220 i = if i = 3 * m 188 49 + 2 then w else if i = 3 * m 188 49 + 1 then v else if i = 3 * m 188 49 then j else m 220 i := fun i => by rw [← hm2]; simp only [q_ups, Int.reduceEq, false_and, true_and, ite_false]
      refine ⟨by omega, by omega, by omega, fun i i0 i1 => ?_⟩
      by_cases hi : i = m 188 49
      · rw [gA, if_pos (by omega), gB, if_pos (by omega), gC, if_pos (by omega), gD (3 * i), if_neg (by omega), if_neg (by omega), if_pos (by omega), gD (3 * i + 1), if_neg (by omega), if_pos (by omega), gD (3 * i + 2), if_pos (by omega)]
        exact ⟨rfl, rfl, rfl, by omega, by omega, z2.1, z2.2, z3.1, z3.2⟩
      · rw [gA, if_neg (by omega), gB, if_neg (by omega), gC, if_neg (by omega), gD (3 * i), if_neg (by omega), if_neg (by omega), if_neg (by omega), gD (3 * i + 1), if_neg (by omega), if_neg (by omega), if_neg (by omega), gD (3 * i + 2), if_neg (by omega), if_neg (by omega), if_neg (by omega)]
        exact s.2.2.2 i i0 (by omega)
