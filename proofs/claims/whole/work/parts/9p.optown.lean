/-! ===== town() joined ===== -/
theorem i_V.hd {B n : Int} {hd hd' dr lv wx db : Int → Int} {be lo wt : Int} (h : i_V B n hd dr lv wx db be lo wt) (e : ∀ j, 0 ≤ j → j < n → hd' j = hd j) : i_V B n hd' dr lv wx db be lo wt := by
  obtain ⟨a, b⟩ := h
  exact ⟨fun j j0 j1 => by rw [e j j0 j1]; exact a j j0 j1, b⟩
/-- places that count, of n jars -/
abbrev x_n (n c i : Int) : Prop := (((2 ≤ c ∧ c ≤ 4) ∨ (7 ≤ c ∧ c ≤ 11) ∨ (189 ≤ c ∧ c ≤ 195)) ∧ n ≤ i) ∨ ((c = 6 ∨ c = 196) ∧ 60 * n ≤ i)
section FN
variable {B : Int} {n : Nat} {m m' : qm} {X : Int → Int → Prop}
theorem i_T.fn (h : i_T n m) (hf : q_fx X m m') (hd : ∀ c i, x_T c i → ¬ x_n n c i → ¬ X c i) : i_T n m' := by
  have e : ∀ c i, x_T c i → ¬ x_n n c i → m' c i = m c i := fun c i z y => hf c i (hd c i z y)
  obtain ⟨a, b, c, d⟩ := h
  refine ⟨a, by rw [e 1 3 (by decide) (by unfold x_n; omega)]; exact b, by rw [e 188 0 (by decide) (by unfold x_n; omega)]; exact c, fun j j0 j1 => ?_⟩
  rw [e 2 j (by simp [x_T]) (by unfold x_n; omega), e 3 j (by simp [x_T]) (by unfold x_n; omega), e 4 j (by simp [x_T]) (by unfold x_n; omega), e 189 j (by simp [x_T]) (by unfold x_n; omega), e 192 j (by simp [x_T]) (by unfold x_n; omega), e 193 j (by simp [x_T]) (by unfold x_n; omega)]
  exact d j j0 j1
theorem i_P.fn (h : i_P n m) (hf : q_fx X m m') (hd : ∀ c i, x_P c i → ¬ x_n n c i → ¬ X c i) : i_P n m' := by
  have e : ∀ c i, x_P c i → ¬ x_n n c i → m' c i = m c i := fun c i z y => hf c i (hd c i z y)
  intro j j0 j1
  rw [e 10 j (by simp [x_P]) (by unfold x_n; omega), e 191 j (by simp [x_P]) (by unfold x_n; omega), e 11 j (by simp [x_P]) (by unfold x_n; omega), e 194 j (by simp [x_P]) (by unfold x_n; omega), e 193 j (by simp [x_P]) (by unfold x_n; omega)]
  obtain ⟨p1, p2, p3, p4, p5⟩ := h j j0 j1
  refine ⟨p1, p2, p3, p4, ?_⟩
  rcases p5 with p5 | p5
  · exact Or.inl p5
  · refine Or.inr ⟨p5.1, p5.2.1, ?_⟩
    rw [e 193 _ (by simp [x_P]) (by unfold x_n; omega)]; exact p5.2.2
theorem i_N.fn (h : i_N B n m) (hl : ∀ j : Int, 0 ≤ j → j < n → m 189 j ≤ 60) (hf : q_fx X m m') (hd : ∀ c i, x_N c i → ¬ x_n n c i → ¬ X c i) : i_N B n m' := by
  have e : ∀ c i, x_N c i → ¬ x_n n c i → m' c i = m c i := fun c i z y => hf c i (hd c i z y)
  obtain ⟨⟨a, b, c, d, f, g⟩, ⟨v1, v2⟩⟩ := h
  have e10 := e 188 10 (by decide) (by unfold x_n; omega)
  have e11 := e 188 11 (by decide) (by unfold x_n; omega)
  have e12 := e 188 12 (by decide) (by unfold x_n; omega)
  have e7 : m' 197 = m 197 := funext fun i => e 197 i (by simp [x_N]) (by unfold x_n; omega)
  refine ⟨⟨fun j j0 j1 => ?_, fun d d0 d1 => ?_, ?_, fun o o0 o1 => ?_, ?_, ?_⟩, ⟨fun j j0 j1 => ?_, ?_⟩⟩
  · have vj := v1 j j0 j1
    have hlj := hl j j0 j1
    rw [e 190 j (by simp [x_N]) (by unfold x_n; omega), e 195 j (by simp [x_N]) (by unfold x_n; omega)]
    show m' 8 j = _ ∧ m' 9 j = _ ∧ 0 ≤ m' 7 j ∧ m' 7 j < 60 ∧ _
    rw [e 8 j (by simp [x_N]) (by unfold x_n; omega), e 9 j (by simp [x_N]) (by unfold x_n; omega), e 7 j (by simp [x_N]) (by unfold x_n; omega)]
    obtain ⟨p1, p2, p3, p4, p5⟩ := a j j0 j1
    refine ⟨p1, p2, p3, p4, fun k k0 k1 => ?_⟩
    show m' 6 (60 * j + (m' 7 j + k) % 60) = _
    rw [e 7 j (by simp [x_N]) (by unfold x_n; omega), e 196 _ (by simp [x_N]) (by unfold x_n; omega)]
    have q : 60 * j + (m 7 j + k) % 60 < 60 * n := by omega
    rw [e 6 _ (by simp [x_N]) (by unfold x_n; omega)]
    exact p5 k k0 k1
  · show m' 12 d = _; rw [e7, e 12 d (by simp [x_N]) (by unfold x_n; omega)]; exact b d d0 d1
  · rw [e10, e 5 8 (by decide) (by unfold x_n; omega)]; exact c
  · show 0 ≤ m' 13 o; rw [e 13 o (by simp [x_N]) (by unfold x_n; omega)]; exact d o o0 o1
  · rw [e11]; show m' 13 0 + m' 13 1 + m' 13 2 + m' 13 3 + m' 13 4 + m' 13 5 + m' 13 6 = _
    rw [e 13 0 (by simp [x_N]) (by unfold x_n; omega), e 13 1 (by simp [x_N]) (by unfold x_n; omega), e 13 2 (by simp [x_N]) (by unfold x_n; omega), e 13 3 (by simp [x_N]) (by unfold x_n; omega), e 13 4 (by simp [x_N]) (by unfold x_n; omega), e 13 5 (by simp [x_N]) (by unfold x_n; omega), e 13 6 (by simp [x_N]) (by unfold x_n; omega)]; exact f
  · rw [e10, e12, e 5 9 (by decide) (by unfold x_n; omega)]; exact g
  · have hlj := hl j j0 j1
    obtain ⟨q1, q2, q3, q4, q5⟩ := v1 j j0 j1
    rw [e 190 j (by simp [x_N]) (by unfold x_n; omega), e 195 j (by simp [x_N]) (by unfold x_n; omega), e 189 j (by simp [x_N]) (by unfold x_n; omega)]
    refine ⟨q1, q2, q3, q4, fun k k0 k1 => ?_⟩
    rw [e 196 _ (by simp [x_N]) (by unfold x_n; omega)]; exact q5 k k0 k1
  · rw [e7, e10, e11, e12]; exact v2
theorem i_U.fn (h : i_U B n m) (hf : q_fx X m m') (hd : ∀ c i, x_U c i → ¬ x_n n c i → ¬ X c i) : i_U B n m' := by
  have e : ∀ c i, x_U c i → ¬ x_n n c i → m' c i = m c i := fun c i z y => hf c i (hd c i z y)
  obtain ⟨a, b, c, d, d2, g⟩ := h
  have e1 := e 33 1 (by decide) (by unfold x_n; omega)
  have e2 := e 33 2 (by decide) (by unfold x_n; omega)
  have e3 := e 188 30 (by decide) (by unfold x_n; omega)
  refine ⟨by omega, by omega, by omega, by omega, by omega, fun r r0 r1 => ?_⟩
  rw [e1, e3]
  have q := (g r r0 (by omega)).fr (m' := m') (fun c' i z => e c' i (by simp only [x_U]; omega) (by unfold x_n; omega))
  exact ⟨q.1, q.2.hd (fun j j0 j1 => e 189 j (by simp [x_U]) (by unfold x_n; omega))⟩
theorem i_K.fn (h : i_K B n m) (hf : q_fx X m m') (hd : ∀ c i, x_K c i → ¬ x_n n c i → ¬ X c i) : i_K B n m' := by
  have e : ∀ c i, x_K c i → ¬ x_n n c i → m' c i = m c i := fun c i z y => hf c i (hd c i z y)
  obtain ⟨a, g⟩ := h
  have e1 := e 188 51 (by decide) (by unfold x_n; omega)
  refine ⟨by omega, fun i i0 i1 => ?_⟩
  have e2 := e 223 i (by simp [x_K]) (by unfold x_n; omega)
  have e3 := e 144 i (by simp [x_K]) (by unfold x_n; omega)
  have e5 := e 224 i (by simp [x_K]) (by unfold x_n; omega)
  have e6 : ∀ j, m' 222 j = m 222 j := fun j => e 222 j (by simp [x_K]) (by unfold x_n; omega)
  have e7 : ∀ j : Int, 0 ≤ j → j < n → m' 193 j = m 193 j := fun j _ _ => e 193 j (by simp [x_K]) (by unfold x_n; omega)
  obtain ⟨g1, g2, g3, g4, g5, g6⟩ := g i i0 i1
  refine ⟨by omega, by omega, by omega, fun z => by rw [e3]; exact g4 (by omega), fun z => by rw [e5, e1, e3]; exact g5 (by omega), fun z => ?_⟩
  obtain ⟨p1, p2⟩ := g6 (by omega)
  have q := p1.fr (m' := m') (fun c' i' z => e c' i' (by simp only [x_K]; omega) (by unfold x_n; omega))
  refine ⟨⟨q.1, q.2.hd (fun j j0 j1 => e 189 j (by simp [x_K]) (by unfold x_n; omega))⟩, fun j j0 j1 => ?_⟩
  rw [e (170 + 9 * i + 5) j (by simp only [x_K]; omega) (by unfold x_n; omega), e (170 + 9 * i + 6) j (by simp only [x_K]; omega) (by unfold x_n; omega), e6, e6, e7 j j0 j1]
  obtain ⟨w1, w2, w3, w4, w5⟩ := p2 j j0 j1
  refine ⟨w1, w2, w3, w4, ?_⟩
  rcases w5 with w5 | w5
  · exact Or.inl w5
  · exact Or.inr ⟨w5.1, w5.2.1, by rw [e7 _ w5.1 w5.2.1]; exact w5.2.2⟩
end FN
abbrev x_L0 (c i : Int) : Prop := (c = 149 ∧ i = 5) ∨ c = 151 ∨ (c = 188 ∧ i = 25) ∨ c = 201
theorem op_town {LW LW' : qm → Prop} (hL : ∀ m m', LW m → (∀ c i, x_L0 c i → m' c i = m c i) → m' 188 51 ≤ m 188 51 + 1 → LW' m') {k : Nat} {b : Int} {m : qm} (I : i_I LW k m) (h51 : m 188 51 ≤ 100000) :
    q_Ev yX11_town cX11_town 3 (some .int) 7 0 0 [(2, 0)] (q_sh0, q_rb b, m) (qK (q_rb b) (fun r m1 => q_Ev yX12_town cX12_town 7 (some .int) 5 0 0 [(2, 188)] (q_sh0, q_rb b, m1) (i_O LW' (k + 1) r))) := by
  have I2 := I
  obtain ⟨n, t, p, a, x, r, s, u, kk, l⟩ := I2
  obtain ⟨x1, x2, x3, x4⟩ := x
  have hb : (1500 * (k : Int)) ≤ 1500 * ((k + 1 : Nat) : Int) := by omega
  have hk0 := kk.1
  by_cases h0 : m 188 14 = 0
  · refine q_enter (by decide +kernel) (by simp) (Nat.le_of_ble_eq_true rfl) ?_
    refine bkX11_town_0 (P2 := fun _ _ => True) (P4 := fun _ _ _ _ => True) (fun z => absurd (x1.trans h0) z) (fun z => absurd (x1.trans h0) z) (fun z => absurd (x1.trans h0) z) (fun z => absurd (x1.trans h0) z) (fun _ => ?_)
    refine i_O_of (b := 198) (q_enter (by decide +kernel) (by simp) (Nat.le_of_ble_eq_true rfl) ?_)
    refine bkX12_town_0 sp_begin3 ?_ ?_
    · rintro _ m1 rfl _ z
      exfalso
      rw [q_up_i (by decide), q_up_i (by decide), q_up_i (by decide), q_up_s, q_up_c (by decide)] at z
      exact z h0
    · rintro _ m1 rfl _ z
      refine ⟨rfl, ?_⟩
      have f : q_fx (fun c i => (c = 188 ∧ (i = 17 ∨ i = 14 ∨ (19 ≤ i ∧ i ≤ 22))) ∨ (c = 145 ∧ i = 1)) m (q_up (q_up (q_up (q_up (q_up (q_up (q_up m 145 1 0) 188 17 0) 188 19 ((q_up m 145 1 0) 188 14)) 188 20 76) 188 21 0) 188 22 (-1)) 188 14 0) := by
        refine ((((((q_fx.rf.up ?_).up ?_).up ?_).up ?_).up ?_).up ?_).up ?_
        · exact Or.inr ⟨rfl, rfl⟩
        all_goals exact Or.inl ⟨rfl, by decide⟩
      refine ⟨n, t.fr f (by intro c i; simp only [x_T]; omega), p.fr f (by intro c i; simp only [x_P]; omega), (a.fr f (by intro c i; simp only [x_N]; omega)).mo hb, ⟨?_, ?_, ?_, fun i i0 i1 => ?_⟩, r.fr f (by intro c i; simp only [x_R]; omega), s.fr f (by intro c i; simp only [x_S]; omega), (u.fr f (by intro c i; simp only [x_U]; omega)).mo hb, (kk.fr f (by intro c i; simp only [x_K]; omega)).mo hb, hL _ _ l (fun c i z => f c i (by unfold x_L0 at z; omega)) (by rw [f 188 51 (by omega)]; omega)⟩
      · rw [q_up_c (by decide), q_up_c (by decide), q_up_c (by decide), q_up_c (by decide), q_up_c (by decide), q_up_c (by decide), q_up_s, q_up_s]
      · rw [q_up_s]; decide
      · rw [q_up_s]; decide
      · rw [q_up_s] at i1; omega
  · refine (cl_town t p a ⟨x1, x2, x3, x4⟩ h0).post ?_
    rintro r1 m1 ⟨e1, e145, gv, ok, f1, fb, fg⟩
    have eR : ∀ c i, 188 ≤ c → m1 c i = m c i := fun c i z => f1 c i (by unfold x_uC x_ucC x_toC; omega)
    have eS : t_S m1 198 = t_S m 198 := by funext i; unfold t_S; rw [eR 198 i (by decide)]
    have e14 : m1 188 14 = m 188 14 := eR _ _ (by decide)
    have eG : t_G0 n m1 = t_G0 n m := by
      funext c i; unfold t_G0
      rw [eR 189 i (by decide), eR 190 i (by decide), eR 191 i (by decide), eR 192 i (by decide), eR 193 i (by decide), eR 194 i (by decide), eR 197 i (by decide)]
    have eA : t_all n m1 = t_all n m := by unfold t_all; rw [eS, e14, eG]
    refine i_O_of (b := 198) ((rf_town ((eR _ _ (by decide)).trans t.2.2.1) t.1 (by rw [eG]; exact t_G0_V t a) (by omega) (by rw [eR _ _ (by decide)]; exact ⟨hk0, h51⟩)).post ?_)
    rintro r2 m2 ⟨e2, g14, f2, fb2, fg2⟩
    rw [e14, eA] at e2 fb2 fg2
    refine ⟨e2.trans e1.symm, ?_⟩
    have F : q_fx (fun c i => x_uC n c i ∨ x_uM n c i) m m2 := (f1.mono (fun c i z => Or.inl z)).tr (f2.mono (fun c i z => Or.inr z))
    have e145' : m2 145 1 = 0 := (f2 145 1 (by unfold x_uM x_toM; omega)).trans e145
    have X2 : i_X m2 := ⟨by omega, by omega, by omega, fun i i0 i1 => by omega⟩
    have R2 : i_R m2 := r.fr F (by intro c i; simp only [x_R, x_uC, x_ucC, x_toC, x_uM, x_toM]; omega)
    have L2 : m2 188 51 ≤ m 188 51 + 1 → LW' m2 := hL _ _ l (fun c i z => F c i (by unfold x_L0 at z; unfold x_uC x_ucC x_toC x_uM x_toM; omega))
    have t1 := t.1
    have hl6 : ∀ j : Int, 0 ≤ j → j < n → m 189 j ≤ 60 := fun j j0 j1 => by have := t.2.2.2 j j0 j1; omega
    by_cases he : t_end (m 188 14) 76 (t_all n m).2.2 = -1
    · obtain ⟨c1, c2, c3, c4, c5⟩ := fg he
      obtain ⟨d1, d2, d3, d4, d5, d6⟩ := fg2 he
      obtain ⟨v0, v1, v2, v3, v4, v5⟩ := gv
      generalize (t_all n m).2.1 = G at *
      obtain ⟨n', hn'⟩ : ∃ n' : Nat, G 7 0 = n' := ⟨(G 7 0).toNat, by omega⟩
      rw [hn'] at c1 c2 c4 d1 d2 d3 d6 v1 v2 v3
      have ec : ∀ c i, c < 188 → m2 c i = m1 c i := fun c i z => f2 c i (by unfold x_uM x_toM; omega)
      have hS := s.fr F (by intro c i; simp only [x_S, x_uC, x_ucC, x_toC, x_uM, x_toM]; omega)
      have eold : ∀ c i, ¬ x_n n c i → c ≠ 1 → c ≠ 12 → c ≠ 33 → c ≠ 145 → c ≠ 147 → c ≠ 148 → c ≠ 188 → c ≠ 197 → c ≠ 200 → m2 c i = m c i := by
        intro c i z a1 a2 a3 a4 a5 a6 a7 a8 a9
        refine F c i (fun y => ?_)
        rcases y with (((h | h | h | h | h) | h) | h | h | h) | ((h | h | h) | h | h | h | h)
        · exact a4 h.1
        · exact a5 h.1
        · exact a6 h
        · exact z (Or.inl ⟨by omega, h.2⟩)
        · exact z (Or.inr ⟨Or.inl h.1, h.2⟩)
        · exact a4 h.1
        · exact a1 h.1
        · exact a2 h
        · exact a3 h.1
        · exact a7 h.1
        · exact a9 h
        · exact z (Or.inl ⟨by omega, h.2⟩)
        · exact a7 h.1
        · exact z (Or.inl ⟨by omega, h.2⟩)
        · exact z (Or.inr ⟨Or.inr h.1, h.2⟩)
        · exact a8 h
      refine ⟨n', ⟨by omega, (ec 1 3 (by decide)).trans c1, d1, fun j j0 j1 => ?_⟩, fun j j0 j1 => ?_, ?_, X2, R2, ⟨hS.1, hS.2.1, hS.2.2.1, fun i i0 i1 => ?_⟩, ?_, ?_, L2 (by rw [d6, eR 188 51 (by decide)]; split <;> omega)⟩
      · rw [ec 2 j (by decide), ec 3 j (by decide), ec 4 j (by decide), (c2 j j0 j1).1, (c2 j j0 j1).2.1, (c2 j j0 j1).2.2.1, (d2 j j0 j1).1, (d2 j j0 j1).2.2.1, (d2 j j0 j1).2.2.2.1]
        refine ⟨rfl, rfl, rfl, ?_⟩
        by_cases q : j < n
        · rw [← (d2 j j0 j1).1, ← (d2 j j0 j1).2.2.1, ← (d2 j j0 j1).2.2.2.1, eold 189 j (by unfold x_n; omega) (by decide) (by decide) (by decide) (by decide) (by decide) (by decide) (by decide) (by decide) (by decide), eold 192 j (by unfold x_n; omega) (by decide) (by decide) (by decide) (by decide) (by decide) (by decide) (by decide) (by decide) (by decide), eold 193 j (by unfold x_n; omega) (by decide) (by decide) (by decide) (by decide) (by decide) (by decide) (by decide) (by decide) (by decide)]
          have := t.2.2.2 j j0 q
          omega
        · have := v3 j (by omega) j1
          omega
      · rw [ec 10 j (by decide), ec 11 j (by decide), (c2 j j0 j1).2.2.2.1, (c2 j j0 j1).2.2.2.2, (d2 j j0 j1).2.1, (d2 j j0 j1).2.2.2.2]
        by_cases q : j < n
        · have e191 := eold 191 j (by unfold x_n; omega) (by decide) (by decide) (by decide) (by decide) (by decide) (by decide) (by decide) (by decide) (by decide)
          have e194 := eold 194 j (by unfold x_n; omega) (by decide) (by decide) (by decide) (by decide) (by decide) (by decide) (by decide) (by decide) (by decide)
          have w := p j j0 q
          rw [(d2 j j0 j1).2.1] at e191
          rw [(d2 j j0 j1).2.2.2.2] at e194
          rw [e191, e194]
          refine ⟨rfl, w.2.1, w.2.2.1, rfl, ?_⟩
          rcases w.2.2.2.2 with w5 | w5
          · exact Or.inl w5
          · refine Or.inr ⟨w5.1, by omega, ?_⟩
            rw [eold 193 j (by unfold x_n; omega) (by decide) (by decide) (by decide) (by decide) (by decide) (by decide) (by decide) (by decide) (by decide), eold 193 (m 194 j) (by unfold x_n; omega) (by decide) (by decide) (by decide) (by decide) (by decide) (by decide) (by decide) (by decide) (by decide)]
            exact w5.2.2
        · have w := v3 j (by omega) j1
          refine ⟨rfl, w.2.2.1.1, w.2.2.1.2, rfl, ?_⟩
          rcases w.2.2.2.2.2 with w6 | w6
          · exact Or.inl w6
          · refine Or.inr ⟨w6.1, by omega, ?_⟩
            rw [(d2 j j0 j1).2.2.2.1, (d2 (G 5 j) w6.1 (by omega)).2.2.2.1]; exact w6.2.2
      · have a2 := (a.mo hb)
        have e10 : m2 188 10 = m 188 10 := F _ _ (by unfold x_uC x_ucC x_toC x_uM x_toM; omega)
        have e11 : m2 188 11 = m 188 11 := F _ _ (by unfold x_uC x_ucC x_toC x_uM x_toM; omega)
        have e12 : m2 188 12 = m 188 12 := F _ _ (by unfold x_uC x_ucC x_toC x_uM x_toM; omega)
        obtain ⟨⟨aa, ab, ac, ad, af, ag⟩, ⟨va, vb, vc, vd⟩⟩ := a2
        refine ⟨⟨fun j j0 j1 => ?_, fun d d0 d1 => ?_, ?_, fun o o0 o1 => ?_, ?_, ?_⟩, ⟨fun j j0 j1 => ?_, fun d d0 d1 => ?_, fun o o0 o1 => ?_, ?_⟩⟩
        · show m2 8 j = _ ∧ m2 9 j = _ ∧ 0 ≤ m2 7 j ∧ m2 7 j < 60 ∧ ∀ k, 0 ≤ k → k < m2 190 j → m2 6 (60 * j + (m2 7 j + k) % 60) = _
          by_cases q : j < n
          · have hlj := hl6 j j0 q
            have vj := va j j0 q
            rw [eold 8 j (by unfold x_n; omega) (by decide) (by decide) (by decide) (by decide) (by decide) (by decide) (by decide) (by decide) (by decide), eold 9 j (by unfold x_n; omega) (by decide) (by decide) (by decide) (by decide) (by decide) (by decide) (by decide) (by decide) (by decide), eold 7 j (by unfold x_n; omega) (by decide) (by decide) (by decide) (by decide) (by decide) (by decide) (by decide) (by decide) (by decide), eold 190 j (by unfold x_n; omega) (by decide) (by decide) (by decide) (by decide) (by decide) (by decide) (by decide) (by decide) (by decide), eold 195 j (by unfold x_n; omega) (by decide) (by decide) (by decide) (by decide) (by decide) (by decide) (by decide) (by decide) (by decide)]
            obtain ⟨p1, p2, p3, p4, p5⟩ := aa j j0 q
            refine ⟨p1, p2, p3, p4, fun k k0 k1 => ?_⟩
            have z : 60 * j + (m 7 j + k) % 60 < 60 * n := by omega
            rw [eold 6 _ (by unfold x_n; omega) (by decide) (by decide) (by decide) (by decide) (by decide) (by decide) (by decide) (by decide) (by decide), eold 196 _ (by unfold x_n; omega) (by decide) (by decide) (by decide) (by decide) (by decide) (by decide) (by decide) (by decide) (by decide)]
            exact p5 k k0 k1
          · obtain ⟨w, w9⟩ := c4 j (by omega) j1
            obtain ⟨y1, y2, y3⟩ := d3 j (by omega) j1
            have vj := v3 j (by omega) j1
            rw [ec 8 j (by decide), ec 9 j (by decide), ec 7 j (by decide), y1, y2, w9]
            refine ⟨w.1, rfl, w.2.1, w.2.2.1, fun k k0 k1 => ?_⟩
            rw [ec 6 _ (by decide), y3 k k0 (by omega)]
            exact w.2.2.2 k k0 k1
        · show m2 12 d = m2 197 d
          rw [ec 12 d (by decide), c3 d d0 d1, d4 d d0 d1]
        · show m2 5 8 = m2 188 10
          rw [e10, F 5 8 (by unfold x_uC x_ucC x_toC x_uM x_toM; omega)]; exact ac
        · show 0 ≤ m2 13 o
          rw [F 13 o (by unfold x_uC x_ucC x_toC x_uM x_toM; omega)]; exact ad o o0 o1
        · have e13 : ∀ o, m2 13 o = m 13 o := fun o => F 13 o (by unfold x_uC x_ucC x_toC x_uM x_toM; omega)
          show m2 13 0 + m2 13 1 + m2 13 2 + m2 13 3 + m2 13 4 + m2 13 5 + m2 13 6 = m2 188 11
          rw [e13, e13, e13, e13, e13, e13, e13, e11]; exact af
        · show m2 5 9 = _
          rw [e10, e12, F 5 9 (by unfold x_uC x_ucC x_toC x_uM x_toM; omega)]; exact ag
        · by_cases q : j < n
          · have hlj := hl6 j j0 q
            obtain ⟨q1, q2, q3, q4, q5⟩ := va j j0 q
            rw [eold 190 j (by unfold x_n; omega) (by decide) (by decide) (by decide) (by decide) (by decide) (by decide) (by decide) (by decide) (by decide), eold 195 j (by unfold x_n; omega) (by decide) (by decide) (by decide) (by decide) (by decide) (by decide) (by decide) (by decide) (by decide), eold 189 j (by unfold x_n; omega) (by decide) (by decide) (by decide) (by decide) (by decide) (by decide) (by decide) (by decide) (by decide)]
            refine ⟨q1, q2, q3, q4, fun k k0 k1 => ?_⟩
            rw [eold 196 _ (by unfold x_n; omega) (by decide) (by decide) (by decide) (by decide) (by decide) (by decide) (by decide) (by decide) (by decide)]; exact q5 k k0 k1
          · obtain ⟨y1, y2, y3⟩ := d3 j (by omega) j1
            have vj := v3 j (by omega) j1
            rw [y1, y2, (d2 j j0 j1).1]
            refine ⟨vj.2.1.1, vj.2.1.2, by omega, by omega, fun k k0 k1 => ?_⟩
            rw [y3 k k0 (by omega)]; omega
        · rw [d4 d d0 d1]; exact v4 d d0 d1
        · rw [d4 _ (by omega) (by omega)]; exact v5 o o0 o1
        · rw [e10, e11, e12]; exact vd
      · obtain ⟨s1, s2, s3, s4, s5, s6⟩ := hS.2.2.2 i i0 i1
        exact ⟨s1, s2, s3, s4, by omega, s6⟩
      · refine ⟨by rw [ec 33 2 (by decide), c5, d5], by omega, by omega, ?_, ?_, fun r r0 r1 => by omega⟩
        · rw [ec 33 1 (by decide), f1 33 1 (by unfold x_uC x_ucC x_toC; omega)]; exact u.2.2.2.1
        · rw [ec 33 1 (by decide), f1 33 1 (by unfold x_uC x_ucC x_toC; omega)]; exact u.2.2.2.2.1
      · rw [eR 188 51 (by decide)] at d6
        by_cases q : (n : Int) < n'
        · rw [if_pos q] at d6
          refine ⟨by omega, fun i i0 i1 => ?_⟩
          obtain ⟨g1, g2, g3, g4, g5, g6⟩ := kk.2 i i0 i1
          rw [F 223 i (by unfold x_uC x_ucC x_toC x_uM x_toM; omega), F 144 i (by unfold x_uC x_ucC x_toC x_uM x_toM; omega), F 224 i (by unfold x_uC x_ucC x_toC x_uM x_toM; omega), d6]
          exact ⟨g1, g2, by omega, g4, fun z => ⟨by have := (g5 z).1; omega, ⟨fun y => by have := (g5 z).1; omega, fun y => by omega⟩⟩, fun z => by omega⟩
        · rw [if_neg q] at d6
          have : n' = n := by omega
          subst this
          have F3 : q_fx (fun c i => (x_uC n' c i ∨ x_uM n' c i) ∧ ¬ (c = 188 ∧ i = 51)) m m2 := by
            intro c i z
            by_cases y : c = 188 ∧ i = 51
            · rw [y.1, y.2]; omega
            · exact F c i (fun w => z ⟨w, y⟩)
          exact (kk.fn F3 (by intro c i; simp only [x_K, x_n, x_uC, x_ucC, x_toC, x_uM, x_toM]; omega)).mo hb
    · have F4 : q_fx (fun c i => x_ucC n c i ∨ x_toM n c i) m m2 := ((fb he).mono (fun c i z => Or.inl z)).tr ((fb2 he).mono (fun c i z => Or.inr z))
      exact ⟨n, t.fn F4 (by intro c i; simp only [x_T, x_n, x_ucC, x_toC, x_toM]; omega), p.fn F4 (by intro c i; simp only [x_P, x_n, x_ucC, x_toC, x_toM]; omega), (a.fn hl6 F4 (by intro c i; simp only [x_N, x_n, x_ucC, x_toC, x_toM]; omega)).mo hb, X2, R2, s.fr F4 (by intro c i; simp only [x_S, x_ucC, x_toC, x_toM]; omega), (u.fn F4 (by intro c i; simp only [x_U, x_n, x_ucC, x_toC, x_toM]; omega)).mo hb, (kk.fn F4 (by intro c i; simp only [x_K, x_n, x_ucC, x_toC, x_toM]; omega)).mo hb, L2 (by rw [F4 188 51 (by unfold x_ucC x_toC x_toM; omega)]; omega)⟩
