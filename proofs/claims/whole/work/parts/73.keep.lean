/-! ===== keep and again ===== -/
abbrev x_Ke (v c i : Int) : Prop := (c = 144 ∧ i = v) ∨ (170 + 9 * v ≤ c ∧ c < 179 + 9 * v) ∨ (c = 188 ∧ i = 17) ∨ (c = 222 ∧ 615 * v ≤ i ∧ i < 615 * v + 615) ∨ ((c = 223 ∨ c = 224) ∧ i = v)
theorem op_keep {LW : qm → Prop} (hL : i_Lf LW) {k : Nat} {b : Int} {m : qm} (I : i_I LW k m) (v : Int) :
    q_Ev yX11_keep cX11_keep 2 (some .boolean) 2 0 0 [(2, 0), (0, v)] (q_sh0, q_rb b, m) (qK (q_rb b) (fun r m1 => q_Ev yX12_keep cX12_keep 4 (some .boolean) 2 0 0 [(2, 188), (0, v)] (q_sh0, q_rb b, m1) (i_O LW (k + 1) r))) := by
  have I2 := I
  obtain ⟨n, t, p, a, x, r, s, u, kk, l⟩ := I2
  have hb : (1500 * (k : Int)) ≤ 1500 * ((k + 1 : Nat) : Int) := by omega
  have h9 := t.1
  obtain ⟨W1, W2, W3⟩ := a_N_of a
  have no : ¬ (0 ≤ v ∧ v ≤ 1) → q_Ev yX12_keep cX12_keep 4 (some .boolean) 2 0 0 [(2, 188), (0, v)] (q_sh0, q_rb b, m) (i_O LW (k + 1) 0) := by
    intro z
    refine i_O_of (b := b) (q_enter (by decide +kernel) (by simp) (Nat.le_of_ble_eq_true rfl) ?_)
    exact bkX12_keep_0 (P2 := fun _ _ => True) (fun y => absurd y z) (fun y => absurd y z) (fun y => absurd y z) (fun y => absurd y z) (fun _ => ⟨rfl, I.no hL⟩)
  refine q_enter (by decide +kernel) (by simp) (Nat.le_of_ble_eq_true rfl) ?_
  refine bkX11_keep_0 (fun z => no (by omega)) (fun z1 z2 => ⟨z1, z2⟩) (fun z1 z2 => sp_copyWater (q_st143 ⟨z1, z2⟩) q_st5 (by omega) W1.b9) (P4 := fun _ m3 _ m4 => (∀ i, 0 ≤ i → i < 9 → m4 (170 + 9 * v + 5) i = m3 (5 + 5) i ∧ m4 (170 + 9 * v + 6) i = m3 (5 + 6) i) ∧ q_fr [170 + 9 * v + 5, 170 + 9 * v + 6] m3 m4) (fun z1 z2 r3 m3 h3 _ => sp_copyPipes (q_st143 ⟨z1, z2⟩) q_st5 (by omega)) (fun z1 z2 r3 m3 h3 _ r4 m4 h4 _ => ?_) (fun z1 z2 => no (by omega))
  obtain ⟨w3, f3⟩ := h3
  obtain ⟨w4, f4⟩ := h4
  have f4' : q_fx (fun c i => c = 170 + 9 * v + 5 ∨ c = 170 + 9 * v + 6) m3 m4 := f4.fx (by intro c hc i; simp at hc; exact hc)
  have g5 : q_fx (fun c i => c = 144 ∧ i = v) m4 (q_up m4 144 v (m4 1 3)) := q_fx.rf.up ⟨rfl, rfl⟩
  generalize hm5 : q_up m4 144 v (m4 1 3) = m5 at g5
  have e144 : m5 144 v = n := by rw [← hm5, q_up_s, f4' _ _ (by omega), f3 _ _ (by unfold w_z; omega)]; exact t.2.1
  have F5 : q_fx (x_Ke v) m m5 := ((f3.mono (fun c i z => by unfold w_z at z; unfold x_Ke; omega)).tr (f4'.mono (fun c i z => by unfold x_Ke; omega))).tr (g5.mono (fun c i z => by unfold x_Ke; omega))
  have w5 : w_cp m 5 m5 (170 + 9 * v) := (w3.fr f4' (fun c i z => by unfold w_z at z; omega)).fr g5 (fun c i z => by unfold w_z at z; omega)
  have p5 : ∀ i, 0 ≤ i → i < 9 → m5 (170 + 9 * v + 5) i = m 10 i ∧ m5 (170 + 9 * v + 6) i = m 11 i := fun i i0 i1 => by
    obtain ⟨y1, y2⟩ := w4 i i0 i1
    rw [g5 _ _ (by omega), g5 _ _ (by omega), y1, y2, f3 _ _ (by unfold w_z; omega), f3 _ _ (by unfold w_z; omega)]
    exact ⟨rfl, rfl⟩
  refine i_O_of (b := b) (q_enter (by decide +kernel) (by simp) (Nat.le_of_ble_eq_true rfl) ?_)
  have g6 : q_fx (fun c i => (c = 188 ∧ i = 17) ∨ ((c = 223 ∨ c = 224) ∧ i = v)) m5 (q_up (q_up (q_up m5 188 17 0) 223 v 1) 224 v (m5 188 51)) := ((q_fx.rf.up (Or.inl ⟨rfl, rfl⟩)).up (Or.inr ⟨Or.inl rfl, rfl⟩)).up (Or.inr ⟨Or.inr rfl, rfl⟩)
  have e223 : q_up (q_up (q_up m5 188 17 0) 223 v 1) 224 v (m5 188 51) 223 v = 1 := by rw [q_up_c (by decide), q_up_s]
  have e224 : q_up (q_up (q_up m5 188 17 0) 223 v 1) 224 v (m5 188 51) 224 v = m5 188 51 := q_up_s
  generalize hm6 : q_up (q_up (q_up m5 188 17 0) 223 v 1) 224 v (m5 188 51) = m6 at g6 e223 e224
  refine bkX12_keep_0 (fun _ => ⟨⟨z1, z2⟩, by decide, q_in_of (by omega) (by omega)⟩) (P2 := fun _ m7 => (∀ i, 0 ≤ i → i < 597 → m7 222 (615 * v + i) = y_L m6 i) ∧ q_fx (fun c' i => c' = 222 ∧ 615 * v ≤ i ∧ i < 615 * v + 597) m6 m7) (fun _ => by rw [hm6]; exact sp_lay (N := 1230) qs222 (by decide) (by omega) (by decide)) (fun _ _ _ _ _ => q_in_of (by omega) (by omega)) (fun _ r7 m7 h7 _ => ?_) (fun z => absurd (by omega) z)
  obtain ⟨y7, f7⟩ := h7
  refine q_for (A := fun i m' => q_At yX12_keep cX12_keep 4 (some .boolean) 2 0 0 _ 56 [(2, 188), (0, v), (0, 615 * v + 597), (0, i)] [] (q_sh0, q_rb b, m')) (fun i m' => 0 ≤ i ∧ i ≤ 9 ∧ (∀ j, 0 ≤ j → j < i → m' 222 (615 * v + 597 + 2 * j) = m 191 j ∧ m' 222 (615 * v + 597 + 2 * j + 1) = m 194 j) ∧ q_fx (fun c i => c = 222 ∧ 615 * v + 597 ≤ i ∧ i < 615 * v + 615) m7 m') 9 ?_ ?_ 0 m7 ⟨by omega, by omega, fun j j0 j1 => absurd j0 (by omega), q_fx.rf⟩
  · rintro i m' hi ⟨i0, i1, q1, f8⟩
    refine bkX12_keep_56 (fun _ => ⟨rfl, ?_⟩) (fun z => absurd z (by omega)) (fun z => absurd z (by omega))
    have F : q_fx (x_Ke v) m m' := ((F5.tr (g6.mono (fun c i z => by unfold x_Ke; omega))).tr (f7.mono (fun c i z => by unfold x_Ke; omega))).tr (f8.mono (fun c i z => by unfold x_Ke; omega))
    have FM : ∀ c i, c < 188 → m' c i = m5 c i := fun c i hc => (f8 _ _ (by omega)).trans ((f7 _ _ (by omega)).trans (g6 _ _ (by omega)))
    have yl : ∀ i, y_L m6 i = y_L m i := fun i => y_L_fr (F5.tr (g6.mono (fun c i z => by unfold x_Ke; omega))) (by intro c i; unfold x_Ke; omega) i
    refine ⟨n, t.fr F (by intro c i; unfold x_T x_Ke; omega), p.fr F (by intro c i; unfold x_P x_Ke; omega), (a.fr F (by intro c i; unfold x_N x_Ke; omega)).mo hb, x.fr F (by intro c i; unfold x_X x_Ke; omega), r.fr F (by intro c i; unfold x_R x_Ke; omega), s.fr F (by intro c i; unfold x_S x_Ke; omega), (u.fr F (by intro c i; unfold x_U x_Ke; omega)).mo hb, ?_, hL _ _ _ l F (by intro c i; unfold x_L x_Ke; omega)⟩
    obtain ⟨k1, k2⟩ := kk
    have ec : m' 188 51 = m 188 51 := F _ _ (by unfold x_Ke; omega)
    have e189 : m' 189 = m 189 := funext fun j => F _ _ (by unfold x_Ke; omega)
    have e193 : ∀ j, m' 193 j = m 193 j := fun j => F _ _ (by unfold x_Ke; omega)
    refine ⟨by omega, fun q q0 q1' => ?_⟩
    by_cases hq : q = v
    · subst hq
      have a144 : m' 144 q = n := (FM _ _ (by decide)).trans e144
      have a223 : m' 223 q = 1 := (f8 _ _ (by omega)).trans ((f7 _ _ (by omega)).trans e223)
      have a224 : m' 224 q = m 188 51 := (f8 _ _ (by omega)).trans ((f7 _ _ (by omega)).trans (e224.trans (F5 _ _ (by unfold x_Ke; omega))))
      refine ⟨Or.inr a223, by omega, by omega, fun z => absurd z (by omega), fun _ => ⟨by omega, by omega, by omega⟩, fun _ => ⟨?_, fun j j0 j1 => ?_⟩⟩
      · rw [e189]
        refine (i_Y.of t a (fun j _ _ => rfl) (w5.fr (X := fun c _ => 188 ≤ c) (fun c i z => FM c i (by omega)) (fun c i z => by unfold w_z at z; omega)) (fun i i0 i1 => ?_)).mo hb
        rw [f8 _ _ (by omega), y7 i i0 i1, yl]
      · have pj := p j j0 j1
        have qj := q1 j j0 (by omega)
        have cj := p5 j j0 (by omega)
        rw [FM (170 + 9 * q + 5) j (by omega), FM (170 + 9 * q + 6) j (by omega), qj.1, qj.2, cj.1, cj.2, e193, e193]
        exact ⟨pj.1, pj.2.2.2.1, pj.2.1, pj.2.2.1, pj.2.2.2.2⟩
    · obtain ⟨g1, g2, g3, g4, g5', g6'⟩ := k2 q q0 q1'
      have a144 : m' 144 q = m 144 q := F _ _ (by unfold x_Ke; omega)
      have a223 : m' 223 q = m 223 q := F _ _ (by unfold x_Ke; omega)
      have a224 : m' 224 q = m 224 q := F _ _ (by unfold x_Ke; omega)
      rw [a144, a223, a224, ec]
      refine ⟨g1, g2, g3, g4, g5', fun z => ⟨?_, fun j j0 j1 => ?_⟩⟩
      · have hn : (n : Int) ≤ 9 := by omega
        rw [e189]
        exact ((g6' z).1.cg hn (fun j j0 j1 => ⟨(t.2.2.2 j j0 j1).2.2.2.2.1, rfl⟩) (w_cp.rf.fr F (fun c i z => by unfold w_z at z; unfold x_Ke; omega)) (fun i i0 i1 => F _ _ (by unfold x_Ke; omega))).mo hb
      · rw [F _ _ (by unfold x_Ke; omega), F _ _ (by unfold x_Ke; omega), F _ _ (by unfold x_Ke; omega), F _ _ (by unfold x_Ke; omega), e193, e193]
        exact (g6' z).2 j j0 j1
  · rintro i m' hi ⟨i0, i1, q1, f8⟩ ih
    have e191 : m' 191 i = m 191 i := (f8 _ _ (by omega)).trans ((f7 _ _ (by omega)).trans ((g6 _ _ (by omega)).trans (F5 _ _ (by unfold x_Ke; omega))))
    have e194 : m' 194 i = m 194 i := (f8 _ _ (by omega)).trans ((f7 _ _ (by omega)).trans ((g6 _ _ (by omega)).trans (F5 _ _ (by unfold x_Ke; omega))))
    refine bkX12_keep_56 (fun z => absurd z (by omega)) (fun _ => ⟨q_in_of (by omega) (by omega), q_in_of (by omega) (by omega), by omega, by omega, q_in_of (by omega) (by omega), by omega, q_in_of (by omega) (by omega)⟩) (fun _ => ?_)
    rw [e191, e194]
    refine ih _ ⟨by omega, by omega, fun j j0 j1 => ?_, (f8.up ⟨rfl, by omega, by omega⟩).up ⟨rfl, by omega, by omega⟩⟩
    by_cases hj : j = i
    · subst hj
      exact ⟨by rw [q_up_i (by omega), q_up_s], q_up_s⟩
    · rw [q_up_i (by omega), q_up_i (by omega), q_up_i (by omega), q_up_i (by omega)]; exact q1 j j0 (by omega)
abbrev x_Ag (c i : Int) : Prop := w_z 5 c i ∨ c = 10 ∨ c = 11 ∨ (c = 33 ∧ i = 2) ∨ (c = 188 ∧ (i = 17 ∨ i = 30 ∨ (10 ≤ i ∧ i ≤ 12))) ∨ c = 190 ∨ c = 191 ∨ (194 ≤ c ∧ c ≤ 197)
theorem op_again {LW : qm → Prop} (hL : i_Lf LW) {k : Nat} {b : Int} {m : qm} (I : i_I LW k m) (v : Int) :
    q_Ev yX11_again cX11_again 2 (some .boolean) 2 0 0 [(2, 0), (0, v)] (q_sh0, q_rb b, m) (qK (q_rb b) (fun r m1 => q_Ev yX12_again cX12_again 4 (some .boolean) 2 0 0 [(2, 188), (0, v)] (q_sh0, q_rb b, m1) (i_O LW (k + 1) r))) := by
  have I2 := I
  obtain ⟨n, t, p, a, x, r, s, u, kk, l⟩ := I2
  have hb : (1500 * (k : Int)) ≤ 1500 * ((k + 1 : Nat) : Int) := by omega
  have h9 := t.1
  have t2 := t.2.1
  obtain ⟨k1, k2⟩ := kk
  have no : ¬ ((0 ≤ v ∧ v ≤ 1) ∧ m 144 v = n) → q_Ev yX12_again cX12_again 4 (some .boolean) 2 0 0 [(2, 188), (0, v)] (q_sh0, q_rb b, m) (i_O LW (k + 1) 0) := by
    intro z
    have key : (0 ≤ v ∧ v ≤ 1) → m 223 v ≠ 0 → m 224 v ≠ m 188 51 := fun y y2 y3 => by
      obtain ⟨g1, g2, g3, g4, g5, g6⟩ := k2 v y.1 (by omega)
      exact z ⟨y, (g5 (g1.resolve_left y2)).2.mp y3⟩
    refine i_O_of (b := b) (q_enter (by decide +kernel) (by simp) (Nat.le_of_ble_eq_true rfl) ?_)
    exact bkX12_again_0 (P4 := fun _ _ => True) (fun y => by omega) (fun _ _ => ⟨rfl, I.no hL⟩) (fun y1 y2 y3 => absurd y3 (key y1 y2)) (fun y1 y2 y3 => absurd y3 (key y1 y2)) (fun y1 y2 y3 => absurd y3 (key y1 y2)) (fun y1 y2 y3 => absurd y3 (key y1 y2)) (fun _ _ _ => ⟨rfl, I.no hL⟩) (fun _ => ⟨rfl, I.no hL⟩)
  refine q_enter (by decide +kernel) (by simp) (Nat.le_of_ble_eq_true rfl) ?_
  refine bkX11_again_0 (fun z => no (by omega)) (fun z1 z2 => no (by omega)) (fun z1 z2 => ⟨z1, z2⟩) (P4 := fun _ m4 => w_cp m (170 + 9 * v) m4 5 ∧ q_fx (w_z 5) m m4) (fun z1 z2 z3 => ?_) (P5 := fun _ m4 _ m5 => (∀ i, 0 ≤ i → i < 9 → m5 (5 + 5) i = m4 (170 + 9 * v + 5) i ∧ m5 (5 + 6) i = m4 (170 + 9 * v + 6) i) ∧ q_fr [5 + 5, 5 + 6] m4 m5) (fun z1 z2 z3 r4 m4 h4 _ => sp_copyPipes q_st5 (q_st143 ⟨z1, z2⟩) (by omega)) (fun z1 z2 z3 r4 m4 h4 _ r5 m5 h5 _ => ?_) (fun z1 z2 z3 => no (fun y => z3 (by omega)))
  · obtain ⟨g1, g2, g3, g4, g5, g6⟩ := k2 v z1 z2
    have y := (g6 (by omega)).1.1.2.2.2.2.2
    refine sp_copyWater q_st5 (q_st143 ⟨z1, z2⟩) (by omega) ?_
    rw [y]
    split
    · exact Or.inr rfl
    · exact Or.inl rfl
  · obtain ⟨g1, g2, g3, g4, g5, g6⟩ := k2 v z1 z2
    obtain ⟨y0, yp⟩ := g6 (by omega)
    have h223 : m 223 v = 1 := g1.resolve_left (fun y => by have := g4 y; omega)
    have h224 : m 224 v = m 188 51 := (g5 h223).2.mpr (by omega)
    obtain ⟨w4, f4⟩ := h4
    obtain ⟨w5, f5⟩ := h5
    have f5' : q_fx (fun c i => c = 10 ∨ c = 11) m4 m5 := f5.fx (by intro c hc i; simp at hc; omega)
    have g6 : q_fx (fun c i => c = 33 ∧ i = 2) m5 (q_up m5 33 2 0) := q_fx.rf.up ⟨rfl, rfl⟩
    have e33 : q_up m5 33 2 0 33 2 = 0 := q_up_s
    generalize q_up m5 33 2 0 = m6 at g6 e33
    have F6 : q_fx (fun c i => w_z 5 c i ∨ c = 10 ∨ c = 11 ∨ (c = 33 ∧ i = 2)) m m6 := ((f4.mono (fun c i z => Or.inl z)).tr (f5'.mono (fun c i z => by omega))).tr (g6.mono (fun c i z => by omega))
    have w6 : w_cp m (170 + 9 * v) m6 5 := (w4.fr f5' (fun c i z => by unfold w_z at z; omega)).fr g6 (fun c i z => by unfold w_z at z; omega)
    have p6 : ∀ i, 0 ≤ i → i < 9 → m6 10 i = m (170 + 9 * v + 5) i ∧ m6 11 i = m (170 + 9 * v + 6) i := fun i i0 i1 => by
      have y := w5 i i0 i1
      rw [g6 _ _ (by omega), g6 _ _ (by omega), ← f4 (170 + 9 * v + 5) i (by unfold w_z; omega), ← f4 (170 + 9 * v + 6) i (by unfold w_z; omega)]
      exact y
    have e : ∀ c i, 188 ≤ c → m6 c i = m c i := fun c i hc => F6 _ _ (by unfold w_z; omega)
    refine i_O_of (b := b) (q_enter (by decide +kernel) (by simp) (Nat.le_of_ble_eq_true rfl) ?_)
    refine bkX12_again_0 (fun _ => ⟨z1, z2⟩) (fun _ z => absurd z (by rw [e _ _ (by decide)]; omega)) (fun _ _ _ => q_in_of (by omega) (by omega)) (fun _ _ _ => sp_bring (N := 1230) qs222 (by decide) (by omega) (by decide)) (fun _ _ _ _ _ _ _ => q_in_of (by omega) (by omega)) (fun _ _ _ r7 m7 h7 _ => ?_) (fun _ _ z => absurd (by rw [e _ _ (by decide), e _ _ (by decide)]; exact h224) z) (fun z => absurd (by omega) z)
    obtain ⟨y7, f7⟩ := h7
    have g0 : q_fx (fun c i => c = 188 ∧ i = 17) m6 (q_up m6 188 17 0) := q_fx.rf.up ⟨rfl, rfl⟩
    have e7 : ∀ i, q_up m6 188 17 0 222 i = m 222 i := fun i => (g0 _ _ (by omega)).trans (e _ _ (by decide))
    have y7 : y_B m7 (fun i => m 222 (615 * v + i)) := by
      have : (fun i => q_up m6 188 17 0 222 (615 * v + i)) = fun i => m 222 (615 * v + i) := funext fun i => e7 _
      rw [this] at y7; exact y7
    have en7 : m7 188 0 = n := (f7 _ _ (by omega)).trans ((g0 _ _ (by omega)).trans ((e _ _ (by decide)).trans t.2.2.1))
    have e222 : ∀ i, m7 222 i = m 222 i := fun i => (f7 _ _ (by omega)).trans (e7 i)
    refine q_for (A := fun i m' => q_At yX12_again cX12_again 4 (some .boolean) 2 0 0 _ 61 [(2, 188), (0, v), (0, 615 * v + 597), (0, i)] [] (q_sh0, q_rb b, m')) (fun i m' => 0 ≤ i ∧ i ≤ n ∧ (∀ j, 0 ≤ j → j < i → m' 191 j = m 222 (615 * v + 597 + 2 * j) ∧ m' 194 j = m 222 (615 * v + 597 + 2 * j + 1)) ∧ q_fx (fun c i => c = 191 ∨ c = 194) m7 m') n ?_ ?_ 0 m7 ⟨by omega, by omega, fun j j0 j1 => absurd j0 (by omega), q_fx.rf⟩
    · rintro i m' hi ⟨i0, i1, q1, f8⟩
      have en : m' 188 0 = n := (f8 _ _ (by omega)).trans en7
      refine bkX12_again_61 (fun _ => ⟨rfl, ?_⟩) (fun z => absurd z (by omega)) (fun z => absurd z (by omega))
      have g9 : q_fx (fun c i => c = 188 ∧ i = 30) m' (q_up m' 188 30 0) := q_fx.rf.up ⟨rfl, rfl⟩
      have e30 : q_up m' 188 30 0 188 30 = 0 := q_up_s
      generalize q_up m' 188 30 0 = m9 at g9 e30
      have F : q_fx x_Ag m m9 := ((((F6.mono (fun c i z => by unfold x_Ag; unfold w_z at z ⊢; omega)).tr (g0.mono (fun c i z => by unfold x_Ag w_z; omega))).tr (f7.mono (fun c i z => by unfold x_Ag w_z; omega))).tr (f8.mono (fun c i z => by unfold x_Ag w_z; omega))).tr (g9.mono (fun c i z => by unfold x_Ag w_z; omega))
      have FM : ∀ c i, c < 188 → m9 c i = m6 c i := fun c i hc => (g9 _ _ (by omega)).trans ((f8 _ _ (by omega)).trans ((f7 _ _ (by omega)).trans (g0 _ _ (by omega))))
      have y9 : y_B m9 (fun i => m 222 (615 * v + i)) := by
        have d : ∀ c i, c = 190 ∨ c = 195 ∨ c = 196 ∨ c = 197 ∨ (c = 188 ∧ 10 ≤ i ∧ i ≤ 12) → m9 c i = m7 c i := fun c i z => (g9 _ _ (by omega)).trans (f8 _ _ (by omega))
        obtain ⟨y1, y2, y3, y4, y5, y6⟩ := y7
        exact ⟨fun i a b => (d _ _ (by omega)).trans (y1 i a b), fun j a b => ⟨(d _ _ (by omega)).trans (y2 j a b).1, (d _ _ (by omega)).trans (y2 j a b).2⟩, fun j a b => (d _ _ (by omega)).trans (y3 j a b), (d _ _ (by omega)).trans y4, (d _ _ (by omega)).trans y5, (d _ _ (by omega)).trans y6⟩
      have e193 : ∀ j, m9 193 j = m 193 j := fun j => F _ _ (by unfold x_Ag w_z; omega)
      refine ⟨n, t.fr F (by intro c i; unfold x_T x_Ag w_z; omega), fun j j0 j1 => ?_, (i_Y.to t y0 (fun j _ _ => F _ _ (by unfold x_Ag w_z; omega)) (w6.fr (X := fun c _ => 188 ≤ c) (fun c i z => FM c i (by omega)) (fun c i z => by unfold w_z at z; omega)) y9).mo hb, x.fr F (by intro c i; unfold x_X x_Ag w_z; omega), r.fr F (by intro c i; unfold x_R x_Ag w_z; omega), s.fr F (by intro c i; unfold x_S x_Ag w_z; omega), ?_, ((show i_K (1500 * k) n m from ⟨k1, k2⟩).fr F (by intro c i; unfold x_K x_Ag w_z; omega)).mo hb, hL _ _ _ l F (by intro c i; unfold x_L x_Ag w_z; omega)⟩
      · obtain ⟨z5, z6, z7, z8, z9⟩ := yp j j0 j1
        obtain ⟨c1, c2⟩ := p6 j j0 (by omega)
        obtain ⟨d1, d2⟩ := q1 j j0 (by omega)
        have d1' : m9 191 j = m 222 (615 * v + 597 + 2 * j) := (g9 _ _ (by omega)).trans d1
        have d2' : m9 194 j = m 222 (615 * v + 597 + 2 * j + 1) := (g9 _ _ (by omega)).trans d2
        rw [FM 10 j (by decide), FM 11 j (by decide), c1, c2, d1', d2', e193, e193]
        exact ⟨z5, z7, z8, z6, z9⟩
      · have a1 : m9 33 2 = 0 := (FM _ _ (by decide)).trans e33
        have a2 : m9 33 1 = m 33 1 := F _ _ (by unfold x_Ag w_z; omega)
        obtain ⟨u1, u2, u3, u4, u5, u6⟩ := u
        exact ⟨by omega, by omega, by omega, by omega, by omega, fun q q0 q1 => absurd q1 (by omega)⟩
    · rintro i m' hi ⟨i0, i1, q1, f8⟩ ih
      have en : m' 188 0 = n := (f8 _ _ (by omega)).trans en7
      refine bkX12_again_61 (fun z => absurd z (by omega)) (fun _ => ⟨q_in_of (by omega) (by omega), q_in_of (by omega) (by omega), by omega, by omega, q_in_of (by omega) (by omega), by omega, q_in_of (by omega) (by omega)⟩) (fun _ => ?_)
      rw [f8 222 _ (by omega), f8 222 _ (by omega), e222, e222]
      refine ih _ ⟨by omega, by omega, fun j j0 j1 => ?_, (f8.up (Or.inl rfl)).up (Or.inr rfl)⟩
      by_cases hj : j = i
      · subst hj
        exact ⟨by rw [q_up_c (by decide), q_up_s], q_up_s⟩
      · rw [q_up_c (by decide), q_up_i hj, q_up_i hj, q_up_c (by decide)]; exact q1 j j0 (by omega)
