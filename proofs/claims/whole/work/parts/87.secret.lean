/-! ===== secret ===== -/
theorem op_secret {LW : qm → Prop} (hL : i_Lf LW) {k : Nat} {b : Int} {m : qm} (I : i_I LW k m) :
    q_Ev yX11_secret cX11_secret 5 (some .int) 5 0 0 [(2, 0)] (q_sh0, q_rb b, m) (qK (q_rb b) (fun r m1 => q_Ev yX12_secret cX12_secret 4 (some .int) 3 0 0 [(2, 188)] (q_sh0, q_rb b, m1) (i_O LW (k + 1) r))) := by
  obtain ⟨n, en, T1, T3, W1, W3, K, S1, S3, KS⟩ := i_knowS I
  have h9 := T3.1
  have e0 := T1.1
  generalize hA : a_of m = A at W1 W3 K
  generalize hT : a_Tof m = T at T1 T3 W3 K
  generalize hS : a_Sof m = S at S1 S3 KS
  obtain ⟨p, hp⟩ := a_bool (a_sc n T A S)
  have lvv : ∀ j : Int, 0 ≤ j → j < n → 0 ≤ A.1.1 j ∧ A.1.1 j ≤ T.1 j ∧ T.1 j ≤ 60 := fun j a b => a_lv T3 W3 a b
  have aok := a_out_ok (p := p) (fl := fun j => (T.1 j - A.1.1 j).toNat) (w0 := 1) (n := n) (fun j a b => by have := lvv j a b; omega)
  generalize hF : a_out p (fun j => (T.1 j - A.1.1 j).toNat) 1 = F at aok
  have hFs : ∀ y : Nat, a_in (p y) y (T.1 y - A.1.1 y).toNat 1 (F y) = F (y + 1) := fun y => by rw [← hF]; rfl
  have hF0 : F 0 = (0, []) := by rw [← hF]; rfl
  refine i_joinT hL I en hA (R := (F n).1) (o := some (F n).2) (fun l zz => by cases zz; have := (aok n (Nat.le_refl n)).2.2.1; omega) ?_ ?_
  · refine q_enter (by decide +kernel) (by simp) (Nat.le_of_ble_eq_true rfl) ?_
    refine bkX11_secret_0 ?_
    refine q_for1 (A := fun i (x : Int) m' => q_At yX11_secret cX11_secret 5 (some .int) 5 0 0 _ 8 [(2, 0), (0, x), (0, i), (4, 0), (4, 0)] [] (q_sh0, q_rb b, m')) (fun i x m' => ∃ y : Nat, i = y ∧ y ≤ n ∧ x = (F y).1 ∧ i_rw m (F y).2 m') n ?_ ?_ 0 0 _ ⟨0, rfl, by omega, by rw [hF0], by rw [hF0]; exact i_rw.clear q_fx.rf⟩
    · rintro i x m' hi ⟨y, rfl, hy, rfl, h⟩
      have : y = n := by omega
      subst this
      have t1 : m' 1 3 = y := (h.1 _ _ (by unfold x_F; omega)).trans e0
      exact bkX11_secret_8 (fun _ => ⟨rfl, h.1.mono x_F_tC, h.2.1, h.2.2⟩) (fun z => absurd z (by omega)) (fun z => absurd z (by omega))
    · rintro i x m' hi ⟨y, rfl, hy, rfl, h⟩ ih
      have T1' := T1.fr h.1 (by unfold x_F; omega)
      have t1 := T1'.1
      have ly := lvv y (by omega) (by omega)
      have d1 : m' 2 y = T.1 y := T1'.2.1 y (by omega) (by omega)
      have d2 : m' 8 y = A.1.1 y := (W1.fr h.1 (by unfold x_F w_z; omega)).lv y (by omega) (by omega)
      refine bkX11_secret_8 (fun z => absurd z (by omega)) (fun _ => ⟨by omega, q_in_of (by omega) (by omega)⟩) (fun _ => ?_)
      rw [d1, d2]
      have hFy := hFs y
      generalize hD : T.1 y - A.1.1 y = D at hFy ⊢
      refine q_for' (A := fun i (x : Int) m' => q_At yX11_secret cX11_secret 5 (some .int) 5 0 0 _ 28 [(2, 0), (0, x), (0, (y : Int)), (0, D), (0, i)] [] (q_sh0, q_rb b, m')) (fun i x m' => ∃ (f : Nat) (s : Int × List Int), 1 ≤ i ∧ i + f = D + 1 ∧ x = s.1 ∧ a_in (p y) y f i s = F (y + 1) ∧ a_sok s (60 * y + i - 1) ∧ i_rw m s.2 m') D ?_ ?_ 1 _ m' ⟨D.toNat, F y, by omega, by omega, rfl, hFy, by have := aok y hy; rw [show 60 * (y : Int) + 1 - 1 = 60 * y by omega]; exact this, h⟩
      · rintro i x m2 hi ⟨f, s, i0, hf, rfl, he, hs, h2⟩
        have : f = 0 := by omega
        subst this
        have he : s = F (y + 1) := he
        subst he
        exact bkX11_secret_28 (P2 := fun _ _ => True) (P3 := fun _ _ _ _ => True) (fun _ => q_in_of (by omega) (by omega)) (fun _ => ih _ m2 ⟨y + 1, by omega, by omega, rfl, h2⟩) (fun z => absurd z (by omega)) (fun z => absurd z (by omega)) (fun z => absurd z (by omega)) (fun z => absurd z (by omega)) (fun z => absurd z (by omega)) (fun z => absurd z (by omega)) (fun z => absurd z (by omega)) (fun z => absurd z (by omega)) (fun z => absurd z (by omega))
      · rintro i x m2 hi ⟨f, s, i0, hf, rfl, he, hs, h2⟩ ih2
        obtain ⟨f, rfl⟩ : ∃ g, f = g + 1 := ⟨f - 1, by omega⟩
        simp only [a_in] at he
        have T1'' := T1.fr h2.1 (by unfold x_F; omega)
        have W1'' := W1.fr h2.1 (by unfold x_F w_z; omega)
        have st := hs.st (p y) y i
        rw [show 60 * (y : Int) + i - 1 + 1 = 60 * y + (i + 1) - 1 by omega] at st
        obtain ⟨s0, s1, s2, s3⟩ := hs
        have hin : q_in32 (i + 1) := q_in_of (by omega) (by omega)
        have hin2 : q_in32 (s.1 + 1) := q_in_of (by omega) (by omega)
        have okx := a_xa_ok T3 W3 (x := (y : Int)) (d := i) (by omega) (by omega)
        have nn : ∀ r3 : Int, ((r3 = 1 ∧ a_sc n T A S y i) ∨ (r3 = 0 ∧ ¬ a_sc n T A S y i)) → r3 = 0 → ¬ p y i = true := fun r3 h3 z3 q => by
          have := (hp y i).mp q
          rcases h3 with h3 | h3
          · omega
          · exact h3.2 this
        have yy : ∀ r3 : Int, ((r3 = 1 ∧ a_sc n T A S y i) ∨ (r3 = 0 ∧ ¬ a_sc n T A S y i)) → r3 ≠ 0 → p y i = true := fun r3 h3 z3 => by
          rcases h3 with h3 | h3
          · exact (hp y i).mpr h3.2
          · exact absurd h3.1 z3
        refine bkX11_secret_28 (P3 := fun _ _ r m3 => ((r = 1 ∧ a_sc n T A S y i) ∨ (r = 0 ∧ ¬ a_sc n T A S y i)) ∧ q_fx x_f m2 m3) (fun z => absurd z (by omega)) (fun z => absurd z (by omega)) (fun _ => sp_startW T1'' W1'' h9) ?_ ?_ (fun _ _ _ _ _ _ _ _ _ _ => hin) ?_ (fun _ _ _ _ _ _ _ _ _ _ _ => ⟨hin2, hin⟩) ?_ ?_ ?_
        · rintro _ r3 m3 ⟨g, -, f3⟩ _
          have : m3 27 y = A.1.1 y := (g.2.2.2.2.2.1 y (by omega) (by omega)).1
          exact ⟨by omega, q_in_of (by omega) (by omega)⟩
        · rintro _ r3 m3 ⟨g, -, f3⟩ _
          have f4 : q_fx x_f m2 (q_up m3 27 y (m3 27 y + i)) := f3.up (by unfold x_f; omega)
          exact (sp_fit ((S1.fr h2.1 (by unfold x_F; omega)).fr f4 (by unfold x_f; omega)) S3 h9 ((g.add (by omega) (by omega)).cl okx) okx rfl).post (fun r m' z => ⟨z.1, f4.tr z.2⟩)
        · rintro _ r3 m3 - _ r4 m4 ⟨h4, f4⟩ _ z4
          rw [if_neg (nn r4 h4 z4)] at he st
          exact ih2 _ m4 ⟨f, s, by omega, by omega, rfl, he, st, h2.fr f4⟩
        · rintro _ r3 m3 - _ r4 m4 ⟨h4, f4⟩ _ z4 zc
          rw [if_pos (yy r4 h4 z4), if_neg zc] at he st
          exact ih2 _ m4 ⟨f, (s.1 + 1, s.2), by omega, by omega, rfl, he, st, h2.fr f4⟩
        · rintro _ r3 m3 - _ r4 m4 ⟨h4, f4⟩ _ z4 zc
          have h5 := h2.fr f4
          rw [s3 zc] at h5
          have e16 : m4 0 16 = 0 := h5.2.1
          exact ⟨by omega, by omega, hin2, hin⟩
        · rintro _ r3 m3 - _ r4 m4 ⟨h4, f4⟩ _ z4 zc
          rw [if_pos (yy r4 h4 z4), if_pos zc] at he st
          exact ih2 _ _ ⟨f, (s.1 + 1, s.2 ++ [(y : Int), i]), by omega, by omega, rfl, he, st, (h2.fr f4).tell2⟩
  · intro m1 f1
    obtain ⟨T2, W2⟩ := K m1 f1
    have S2 := KS m1 f1
    have e1 := T2.1
    refine q_enter (by decide +kernel) (by simp) (Nat.le_of_ble_eq_true rfl) ?_
    refine bkX12_secret_0 ?_
    refine q_for1 (A := fun i (x : Int) m' => q_At yX12_secret cX12_secret 4 (some .int) 3 0 0 _ 14 [(2, 188), (0, x), (0, i), (4, 0)] [] (q_sh0, q_rb b, m')) (fun i x m' => ∃ y : Nat, i = y ∧ y ≤ n ∧ x = (F y).1 ∧ i_mw m1 (F y).2 m') n ?_ ?_ 0 0 _ ⟨0, rfl, by omega, by rw [hF0], by rw [hF0]; exact i_mw.clear (q_fx.rf.up (by unfold x_G; decide))⟩
    · rintro i x m' hi ⟨y, rfl, hy, rfl, h⟩
      have : y = n := by omega
      subst this
      have t1 := (T2.fr h.1 (by unfold x_G; omega)).1
      exact bkX12_secret_14 (fun _ => ⟨rfl, h.1.mono x_G_tM, W2.fr h.1 (by unfold x_G; omega), h.2.1, h.2.2⟩) (fun z => absurd z (by omega))
    · rintro i x m' hi ⟨y, rfl, hy, rfl, h⟩ ih
      have t1 := (T2.fr h.1 (by unfold x_G; omega)).1
      have ly := lvv y (by omega) (by omega)
      refine bkX12_secret_14 (fun z => absurd z (by omega)) (fun _ => ?_)
      have hFy := hFs y
      generalize hD : T.1 y - A.1.1 y = D at hFy
      refine q_for' (A := fun i (x : Int) m' => q_At yX12_secret cX12_secret 4 (some .int) 3 0 0 _ 24 [(2, 188), (0, x), (0, (y : Int)), (0, i)] [] (q_sh0, q_rb b, m')) (fun i x m' => ∃ (f : Nat) (s : Int × List Int), 1 ≤ i ∧ i + f = D + 1 ∧ x = s.1 ∧ a_in (p y) y f i s = F (y + 1) ∧ a_sok s (60 * y + i - 1) ∧ i_mw m1 s.2 m') D ?_ ?_ 1 _ m' ⟨D.toNat, F y, by omega, by omega, rfl, hFy, by have := aok y hy; rw [show 60 * (y : Int) + 1 - 1 = 60 * y by omega]; exact this, h⟩
      · rintro i x m2 hi ⟨f, s, i0, hf, rfl, he, hs, h2⟩
        have : f = 0 := by omega
        subst this
        have he : s = F (y + 1) := he
        subst he
        have d1 : m2 189 y = T.1 y := (T2.fr h2.1 (by unfold x_G; omega)).2.1 y (by omega) (by omega)
        have d2 : m2 190 y = A.1.1 y := (W2.fr h2.1 (by unfold x_G; omega)).lv y (by omega) (by omega)
        exact bkX12_secret_24 (P2 := fun _ _ => True) (P3 := fun _ _ _ _ => True) ⟨by omega, q_in_of (by omega) (by omega)⟩ (fun _ => q_in_of (by omega) (by omega)) (fun _ => ih _ m2 ⟨y + 1, by omega, by omega, rfl, h2⟩) (fun z => absurd z (by omega)) (fun z => absurd z (by omega)) (fun z => absurd z (by omega)) (fun z => absurd z (by omega)) (fun z => absurd z (by omega)) (fun z => absurd z (by omega)) (fun z => absurd z (by omega)) (fun z => absurd z (by omega)) (fun z => absurd z (by omega))
      · rintro i x m2 hi ⟨f, s, i0, hf, rfl, he, hs, h2⟩ ih2
        obtain ⟨f, rfl⟩ : ∃ g, f = g + 1 := ⟨f - 1, by omega⟩
        simp only [a_in] at he
        have T2' := T2.fr h2.1 (by unfold x_G; omega)
        have W2' := W2.fr h2.1 (by unfold x_G; omega)
        have d1 : m2 189 y = T.1 y := T2'.2.1 y (by omega) (by omega)
        have d2 : m2 190 y = A.1.1 y := W2'.lv y (by omega) (by omega)
        have st := hs.st (p y) y i
        rw [show 60 * (y : Int) + i - 1 + 1 = 60 * y + (i + 1) - 1 by omega] at st
        obtain ⟨s0, s1, s2, s3⟩ := hs
        have hin : q_in32 (i + 1) := q_in_of (by omega) (by omega)
        have hin2 : q_in32 (s.1 + 1) := q_in_of (by omega) (by omega)
        have okx := a_xa_ok T3 W3 (x := (y : Int)) (d := i) (by omega) (by omega)
        have nn : ∀ r3 : Int, ((r3 = 1 ∧ a_sc n T A S y i) ∨ (r3 = 0 ∧ ¬ a_sc n T A S y i)) → r3 = 0 → ¬ p y i = true := fun r3 h3 z3 q => by
          have := (hp y i).mp q
          rcases h3 with h3 | h3
          · omega
          · exact h3.2 this
        have yy : ∀ r3 : Int, ((r3 = 1 ∧ a_sc n T A S y i) ∨ (r3 = 0 ∧ ¬ a_sc n T A S y i)) → r3 ≠ 0 → p y i = true := fun r3 h3 z3 => by
          rcases h3 with h3 | h3
          · exact (hp y i).mpr h3.2
          · exact absurd h3.1 z3
        refine bkX12_secret_24 (P3 := fun _ _ r m3 => ((r = 1 ∧ a_sc n T A S y i) ∨ (r = 0 ∧ ¬ a_sc n T A S y i)) ∧ q_fx x_g m2 m3) ⟨by omega, q_in_of (by omega) (by omega)⟩ (fun z => absurd z (by omega)) (fun z => absurd z (by omega)) (fun _ => sp_beginW T2' W2' h9) ?_ ?_ (fun _ _ _ _ _ _ _ _ _ _ _ => ⟨hin2, hin⟩) ?_ ?_ ?_ (fun _ _ _ _ _ _ _ _ _ _ => hin) ?_
        · rintro _ r3 m3 ⟨g, f3⟩ _
          have : m3 207 y = A.1.1 y := (g.2.2.2.2.1 y (by omega) (by omega)).1
          exact q_in_of (by omega) (by omega)
        · rintro _ r3 m3 ⟨g, f3⟩ _
          have f4 : q_fx x_g m2 (q_up m3 207 y (m3 207 y + i)) := (f3.mono (fun c i z => by unfold x_g; omega)).up (by unfold x_g; omega)
          exact (sp_isSo ((S2.fr h2.1 (by unfold x_G; omega)).fr f4 (by unfold x_g; omega)) S3 h9 (g.add (by omega) (by omega)) okx).post (fun r m' z => ⟨z.1, f4.tr z.2⟩)
        · rintro _ r3 m3 - _ r4 m4 ⟨h4, f4⟩ _ z4 zc
          rw [if_pos (yy r4 h4 z4), if_neg zc] at he st
          exact ih2 _ m4 ⟨f, (s.1 + 1, s.2), by omega, by omega, rfl, he, st, h2.fr f4⟩
        · rintro _ r3 m3 - _ r4 m4 ⟨h4, f4⟩ _ z4 zc
          have h5 := h2.fr f4
          rw [s3 zc] at h5
          have e16 : m4 188 16 = 0 := h5.2.1
          exact ⟨by omega, by omega, hin2, hin⟩
        · rintro _ r3 m3 - _ r4 m4 ⟨h4, f4⟩ _ z4 zc
          rw [if_pos (yy r4 h4 z4), if_pos zc] at he st
          exact ih2 _ _ ⟨f, (s.1 + 1, s.2 ++ [(y : Int), i]), by omega, by omega, rfl, he, st, (h2.fr f4).tell2⟩
        · rintro _ r3 m3 - _ r4 m4 ⟨h4, f4⟩ _ z4
          rw [if_neg (nn r4 h4 z4)] at he st
          exact ih2 _ m4 ⟨f, s, by omega, by omega, rfl, he, st, h2.fr f4⟩
