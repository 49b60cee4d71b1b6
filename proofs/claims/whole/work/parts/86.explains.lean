/-! ===== explains ===== -/
theorem op_explains {LW : qm → Prop} (hL : i_Lf LW) {k : Nat} {b : Int} {m : qm} (I : i_I LW k m) :
    q_Ev yX11_explains cX11_explains 5 (some .int) 6 0 0 [(2, 0)] (q_sh0, q_rb b, m) (qK (q_rb b) (fun r m1 => q_Ev yX12_explains cX12_explains 4 (some .int) 4 0 0 [(2, 188)] (q_sh0, q_rb b, m1) (i_O LW (k + 1) r))) := by
  obtain ⟨n, en, T1, T3, W1, W3, K, S1, S3, KS⟩ := i_knowS I
  have h9 := T3.1
  have e0 := T1.1
  generalize hA : a_of m = A at W1 W3 K
  generalize hT : a_Tof m = T at T1 T3 W3 K
  generalize hS : a_Sof m = S at S1 S3 KS
  obtain ⟨p, hp⟩ := a_bool (fun j w => w ≠ T.2.2.2.1 j ∧ a_hw n T A S j w)
  have ok0 := a_OK0 T3 W3
  obtain ⟨z, hz⟩ : ∃ z : Int, (z = 1 ∧ a_so S (fun v => f_it n T.2.2.2.2 T.1 T.2.2.2.1 v (a_x0 A))) ∨ (z = 0 ∧ ¬ a_so S (fun v => f_it n T.2.2.2.2 T.1 T.2.2.2.1 v (a_x0 A))) := by
    by_cases h : a_so S (fun v => f_it n T.2.2.2.2 T.1 T.2.2.2.1 v (a_x0 A))
    · exact ⟨1, Or.inl ⟨rfl, h⟩⟩
    · exact ⟨0, Or.inr ⟨rfl, h⟩⟩
  have hzr : ∀ r : Int, ((r = 1 ∧ a_so S (fun v => f_it n T.2.2.2.2 T.1 T.2.2.2.1 v (a_x0 A))) ∨ (r = 0 ∧ ¬ a_so S (fun v => f_it n T.2.2.2.2 T.1 T.2.2.2.1 v (a_x0 A)))) → r = z := by
    intro r hr
    rcases hr with hr | hr <;> rcases hz with hz | hz
    · rw [hr.1, hz.1]
    · exact absurd hr.2 hz.2
    · exact absurd hz.2 hr.2
    · rw [hr.1, hz.1]
  have hz01 : z = 0 ∨ z = 1 := by omega
  clear hz
  have aok := a_out_ok (p := p) (fl := fun _ => 10) (w0 := 0) (n := n) (fun _ _ _ => by decide)
  generalize hF : a_out p (fun _ => 10) 0 = F at aok
  have hFs : ∀ y : Nat, a_in (p y) y 10 0 (F y) = F (y + 1) := fun y => by rw [← hF]; rfl
  have hF0 : F 0 = (0, []) := by rw [← hF]; rfl
  refine i_joinT hL I en hA (R := (F n).1) (o := some ((F n).2 ++ [z])) (fun l zz => by cases zz; have := (aok n (Nat.le_refl n)).2.2.1; simp; omega) ?_ ?_
  · refine q_enter (by decide +kernel) (by simp) (Nat.le_of_ble_eq_true rfl) ?_
    refine bkX11_explains_0 (P2 := fun _ _ r m2 => r = z ∧ q_fx x_f m m2) (sp_startW T1 W1 h9) ?_ ?_
    · rintro r1 m1 ⟨g, -, f1⟩ _
      exact (sp_fit (S1.fr f1 (by unfold x_f; omega)) S3 h9 (g.cl ok0) ok0 rfl).post (fun r m' y => ⟨hzr r y.1, f1.tr y.2⟩)
    · rintro r1 m1 - _ r2 m2 ⟨rfl, f2⟩ _
      refine q_for1 (A := fun i (x : Int) m' => q_At yX11_explains cX11_explains 5 (some .int) 6 0 0 _ 31 [(2, 0), (0, r2), (0, x), (0, i), (4, 0)] [] (q_sh0, q_rb b, m')) (fun i x m' => ∃ y : Nat, i = y ∧ y ≤ n ∧ x = (F y).1 ∧ i_rw m (F y).2 m') n ?_ ?_ 0 0 _ ⟨0, rfl, by omega, by rw [hF0], by rw [hF0]; exact i_rw.clear (f2.mono (fun c i z => by unfold x_f at z; unfold x_F; omega))⟩
      · rintro i x m' hi ⟨y, rfl, hy, rfl, h⟩
        have : y = n := by omega
        subst this
        have a1 := aok y hy
        have t1 : m' 1 3 = y := (h.1 _ _ (by unfold x_F; omega)).trans e0
        have l1 := h.len (by have := a1.2.2.1; omega)
        have fn : ∀ v : Int, v = r2 → (F y).1 = (F y).1 ∧ q_fx x_tC m (q_up (q_up m' 169 (m' 0 16) v) 0 16 (m' 0 16 + 1)) ∧ i_rc m (q_up (q_up m' 169 (m' 0 16) v) 0 16 (m' 0 16 + 1)) (some ((F y).2 ++ [r2])) := by
          rintro v rfl
          have h1 := h.tell (v := v)
          exact ⟨rfl, h1.1.mono x_F_tC, h1.2.1, h1.2.2⟩
        refine bkX11_explains_31 (fun _ _ => l1) (fun _ z => fn 0 z.symm) (fun _ _ => l1) (fun _ z => fn 1 (by omega)) (fun z => absurd z (by omega))
      · rintro i x m' hi ⟨y, rfl, hy, rfl, h⟩ ih
        have t1 : m' 1 3 = n := (h.1 _ _ (by unfold x_F; omega)).trans e0
        refine bkX11_explains_31 (fun z => absurd z (by omega)) (fun z => absurd z (by omega)) (fun z => absurd z (by omega)) (fun z => absurd z (by omega)) (fun _ => ?_)
        refine q_for' (A := fun i (x : Int) m' => q_At yX11_explains cX11_explains 5 (some .int) 6 0 0 _ 45 [(2, 0), (0, r2), (0, x), (0, (y : Int)), (0, i)] [] (q_sh0, q_rb b, m')) (fun i x m' => ∃ (f : Nat) (s : Int × List Int), 0 ≤ i ∧ i + f = 10 ∧ x = s.1 ∧ a_in (p y) y f i s = F (y + 1) ∧ a_sok s (60 * y + i) ∧ i_rw m s.2 m') 9 ?_ ?_ 0 _ m' ⟨10, F y, by omega, by omega, rfl, hFs y, by have := aok y hy; rw [Int.add_zero]; exact this, h⟩
        · rintro i x m2 hi ⟨f, s, i0, hf, rfl, he, hs, h2⟩
          have : f = 0 := by omega
          subst this
          have he : s = F (y + 1) := he
          subst he
          exact bkX11_explains_45 (P3 := fun _ _ => True) (fun _ => q_in_of (by omega) (by omega)) (fun _ => ih _ m2 ⟨y + 1, by omega, by omega, rfl, h2⟩) (fun z => absurd z (by omega)) (fun z => absurd z (by omega)) (fun z => absurd z (by omega)) (fun z => absurd z (by omega)) (fun z => absurd z (by omega)) (fun z => absurd z (by omega)) (fun z => absurd z (by omega)) (fun z => absurd z (by omega)) (fun z => absurd z (by omega)) (fun z => absurd z (by omega))
        · rintro i x m2 hi ⟨f, s, i0, hf, rfl, he, hs, h2⟩ ih2
          obtain ⟨f, rfl⟩ : ∃ g, f = g + 1 := ⟨f - 1, by omega⟩
          simp only [a_in] at he
          have T1' := T1.fr h2.1 (by unfold x_F; omega)
          have ew : m2 10 y = T.2.2.2.1 y := T1'.2.2.2.2.1 y (by omega) (by omega)
          have st := hs.st (p y) y i
          obtain ⟨s0, s1, s2, s3⟩ := hs
          have hin : q_in32 (i + 1) := q_in_of (by omega) (by omega)
          have hin2 : q_in32 (s.1 + 1) := q_in_of (by omega) (by omega)
          have no : ∀ m3 : qm, q_fx x_f m2 m3 → ¬ p y i = true → q_At yX11_explains cX11_explains 5 (some .int) 6 0 0 (qK (q_rb b) (fun r m1 => r = (F n).1 ∧ q_fx x_tC m m1 ∧ i_rc m m1 (some ((F n).2 ++ [r2])))) 45 [(2, 0), (0, r2), (0, s.1), (0, (y : Int)), (0, i + 1)] [] (q_sh0, q_rb b, m3) := fun m3 f3 hn => by
            rw [if_neg hn] at he st
            exact ih2 _ m3 ⟨f, s, by omega, by omega, rfl, he, by rw [← Int.add_assoc]; exact st, h2.fr f3⟩
          have nn : ∀ r3 : Int, ((r3 = 1 ∧ a_hw n T A S y i) ∨ (r3 = 0 ∧ ¬ a_hw n T A S y i)) → r3 = 0 → ¬ p y i = true := fun r3 h3 z3 q => by
            have := ((hp y i).mp q).2
            rcases h3 with h3 | h3
            · omega
            · exact h3.2 this
          have yy : ∀ r3 : Int, i ≠ m2 10 y → ((r3 = 1 ∧ a_hw n T A S y i) ∨ (r3 = 0 ∧ ¬ a_hw n T A S y i)) → r3 ≠ 0 → p y i = true := fun r3 hne h3 z3 => by
            rcases h3 with h3 | h3
            · exact (hp y i).mpr ⟨by rw [← ew]; exact hne, h3.2⟩
            · exact absurd h3.1 z3
          refine bkX11_explains_45 (P3 := fun r m3 => ((r = 1 ∧ a_hw n T A S y i) ∨ (r = 0 ∧ ¬ a_hw n T A S y i)) ∧ q_fx x_f m2 m3) (fun z => absurd z (by omega)) (fun z => absurd z (by omega)) (fun _ => by omega) (fun _ _ => hin) (fun _ z => no m2 q_fx.rf (fun q => ((hp y i).mp q).1 (by rw [z]; exact ew))) (fun _ _ => sp_fitsWH T1' (W1.fr h2.1 (by unfold x_F w_z; omega)) (S1.fr h2.1 (by unfold x_F; omega)) T3 W3 S3 ⟨by omega, by omega⟩ ⟨by omega, by omega⟩) (fun _ _ _ _ _ _ _ => hin) (fun _ _ r3 m3 h3 _ z3 => no m3 h3.2 (nn r3 h3.1 z3)) (fun _ _ _ _ _ _ _ _ => ⟨hin2, hin⟩) ?_ ?_ ?_
          · rintro _ hne r3 m3 ⟨h3, f3⟩ _ z3 zc
            have yp := yy r3 hne h3 z3
            rw [if_pos yp, if_neg zc] at he st
            exact ih2 _ m3 ⟨f, (s.1 + 1, s.2), by omega, by omega, rfl, he, by rw [← Int.add_assoc]; exact st, h2.fr f3⟩
          · rintro _ hne r3 m3 ⟨h3, f3⟩ _ z3 zc
            have h4 := h2.fr f3
            rw [s3 zc] at h4
            have e16 : m3 0 16 = 0 := h4.2.1
            exact ⟨by omega, by omega, hin2, hin⟩
          · rintro _ hne r3 m3 ⟨h3, f3⟩ _ z3 zc
            have yp := yy r3 hne h3 z3
            rw [if_pos yp, if_pos zc] at he st
            exact ih2 _ _ ⟨f, (s.1 + 1, s.2 ++ [(y : Int), i]), by omega, by omega, rfl, he, by rw [← Int.add_assoc]; exact st, (h2.fr f3).tell2⟩
  · intro m1 f1
    obtain ⟨T2, W2⟩ := K m1 f1
    have S2 := KS m1 f1
    have e1 := T2.1
    refine q_enter (by decide +kernel) (by simp) (Nat.le_of_ble_eq_true rfl) ?_
    refine bkX12_explains_0 ?_
    refine q_for1 (A := fun i (x : Int) m' => q_At yX12_explains cX12_explains 4 (some .int) 4 0 0 _ 14 [(2, 188), (0, x), (0, i), (4, 0)] [] (q_sh0, q_rb b, m')) (fun i x m' => ∃ y : Nat, i = y ∧ y ≤ n ∧ x = (F y).1 ∧ i_mw m1 (F y).2 m') n ?_ ?_ 0 0 _ ⟨0, rfl, by omega, by rw [hF0], by rw [hF0]; exact i_mw.clear (q_fx.rf.up (by unfold x_G; decide))⟩
    · rintro i x m' hi ⟨y, rfl, hy, rfl, h⟩
      have : y = n := by omega
      subst this
      have a1 := aok y hy
      have T2' := T2.fr h.1 (by unfold x_G; omega)
      have W2' := W2.fr h.1 (by unfold x_G; omega)
      have t1 := T2'.1
      have fn : ∀ (v : Int) (m3 : qm), q_fx x_g m' m3 → v = z → (F y).1 = (F y).1 ∧ q_fx x_tM m1 (q_up (q_up m3 199 (m3 188 16) v) 188 16 (m3 188 16 + 1)) ∧ r_W (q_up (q_up m3 199 (m3 188 16) v) 188 16 (m3 188 16 + 1)) y A ∧ i_rr m1 (q_up (q_up m3 199 (m3 188 16) v) 188 16 (m3 188 16 + 1)) (some ((F y).2 ++ [z])) := by
        rintro v m3 f3 rfl
        have h1 := (h.fr f3).tell (v := v)
        exact ⟨rfl, h1.1.mono x_G_tM, W2.fr h1.1 (by unfold x_G; omega), h1.2.1, h1.2.2⟩
      refine bkX12_explains_14 (P3 := fun _ _ r m3 => r = z ∧ q_fx x_g m' m3) (fun _ => sp_beginW T2' W2' h9) ?_ ?_ ?_ ?_ ?_ (fun z => absurd z (by omega))
      · rintro _ r2 m2 ⟨g, f2⟩ _
        have f2 : q_fx x_g m' m2 := f2.mono (fun c i z => by unfold x_g; omega)
        exact (sp_isSo ((S2.fr h.1 (by unfold x_G; omega)).fr f2 (by unfold x_g; omega)) S3 h9 g ok0).post (fun r m' y => ⟨hzr r y.1, f2.tr y.2⟩)
      · rintro _ r2 m2 - _ r3 m3 ⟨rfl, f3⟩ _ _
        exact (h.fr f3).len (by have := a1.2.2.1; omega)
      · rintro _ r2 m2 - _ r3 m3 ⟨rfl, f3⟩ _ z0
        exact fn 0 m3 f3 z0.symm
      · rintro _ r2 m2 - _ r3 m3 ⟨rfl, f3⟩ _ _
        exact (h.fr f3).len (by have := a1.2.2.1; omega)
      · rintro _ r2 m2 - _ r3 m3 ⟨rfl, f3⟩ _ z0
        exact fn 1 m3 f3 (by omega)
    · rintro i x m' hi ⟨y, rfl, hy, rfl, h⟩ ih
      have t1 := (T2.fr h.1 (by unfold x_G; omega)).1
      refine bkX12_explains_14 (P2 := fun _ _ => True) (P3 := fun _ _ _ _ => True) (fun z => absurd z (by omega)) (fun z => absurd z (by omega)) (fun z => absurd z (by omega)) (fun z => absurd z (by omega)) (fun z => absurd z (by omega)) (fun z => absurd z (by omega)) (fun _ => ?_)
      refine q_for' (A := fun i (x : Int) m' => q_At yX12_explains cX12_explains 4 (some .int) 4 0 0 _ 24 [(2, 188), (0, x), (0, (y : Int)), (0, i)] [] (q_sh0, q_rb b, m')) (fun i x m' => ∃ (f : Nat) (s : Int × List Int), 0 ≤ i ∧ i + f = 10 ∧ x = s.1 ∧ a_in (p y) y f i s = F (y + 1) ∧ a_sok s (60 * y + i) ∧ i_mw m1 s.2 m') 9 ?_ ?_ 0 _ m' ⟨10, F y, by omega, by omega, rfl, hFs y, by have := aok y hy; rw [Int.add_zero]; exact this, h⟩
      · rintro i x m2 hi ⟨f, s, i0, hf, rfl, he, hs, h2⟩
        have : f = 0 := by omega
        subst this
        have he : s = F (y + 1) := he
        subst he
        exact bkX12_explains_24 (P3 := fun _ _ => True) (fun _ => q_in_of (by omega) (by omega)) (fun _ => ih _ m2 ⟨y + 1, by omega, by omega, rfl, h2⟩) (fun z => absurd z (by omega)) (fun z => absurd z (by omega)) (fun z => absurd z (by omega)) (fun z => absurd z (by omega)) (fun z => absurd z (by omega)) (fun z => absurd z (by omega)) (fun z => absurd z (by omega)) (fun z => absurd z (by omega)) (fun z => absurd z (by omega)) (fun z => absurd z (by omega))
      · rintro i x m2 hi ⟨f, s, i0, hf, rfl, he, hs, h2⟩ ih2
        obtain ⟨f, rfl⟩ : ∃ g, f = g + 1 := ⟨f - 1, by omega⟩
        simp only [a_in] at he
        have T2' := T2.fr h2.1 (by unfold x_G; omega)
        have ew : m2 191 y = T.2.2.2.1 y := T2'.2.2.2.2.1 y (by omega) (by omega)
        have st := hs.st (p y) y i
        obtain ⟨s0, s1, s2, s3⟩ := hs
        have hin : q_in32 (i + 1) := q_in_of (by omega) (by omega)
        have hin2 : q_in32 (s.1 + 1) := q_in_of (by omega) (by omega)
        have no : ∀ m3 : qm, q_fx x_g m2 m3 → ¬ p y i = true → q_At yX12_explains cX12_explains 4 (some .int) 4 0 0 (qK (q_rb b) (fun r m2 => r = (F n).1 ∧ q_fx x_tM m1 m2 ∧ r_W m2 n A ∧ i_rr m1 m2 (some ((F n).2 ++ [z])))) 24 [(2, 188), (0, s.1), (0, (y : Int)), (0, i + 1)] [] (q_sh0, q_rb b, m3) := fun m3 f3 hn => by
          rw [if_neg hn] at he st
          exact ih2 _ m3 ⟨f, s, by omega, by omega, rfl, he, by rw [← Int.add_assoc]; exact st, h2.fr f3⟩
        have nn : ∀ r3 : Int, ((r3 = 1 ∧ a_hw n T A S y i) ∨ (r3 = 0 ∧ ¬ a_hw n T A S y i)) → r3 = 0 → ¬ p y i = true := fun r3 h3 z3 q => by
          have := ((hp y i).mp q).2
          rcases h3 with h3 | h3
          · omega
          · exact h3.2 this
        have yy : ∀ r3 : Int, i ≠ m2 191 y → ((r3 = 1 ∧ a_hw n T A S y i) ∨ (r3 = 0 ∧ ¬ a_hw n T A S y i)) → r3 ≠ 0 → p y i = true := fun r3 hne h3 z3 => by
          rcases h3 with h3 | h3
          · exact (hp y i).mpr ⟨by rw [← ew]; exact hne, h3.2⟩
          · exact absurd h3.1 z3
        refine bkX12_explains_24 (P3 := fun r m3 => ((r = 1 ∧ a_hw n T A S y i) ∨ (r = 0 ∧ ¬ a_hw n T A S y i)) ∧ q_fx x_g m2 m3) (fun z => absurd z (by omega)) (fun z => absurd z (by omega)) (fun _ => by omega) (fun _ _ => hin) (fun _ z => no m2 q_fx.rf (fun q => ((hp y i).mp q).1 (by rw [z]; exact ew))) (fun _ _ => sp_isSoWith T2' (W2.fr h2.1 (by unfold x_G; omega)) (S2.fr h2.1 (by unfold x_G; omega)) T3 W3 S3 ⟨by omega, by omega⟩ ⟨by omega, by omega⟩) (fun _ _ _ _ _ _ _ _ => ⟨hin2, hin⟩) ?_ ?_ ?_ (fun _ _ _ _ _ _ _ => hin) (fun _ _ r3 m3 h3 _ z3 => no m3 h3.2 (nn r3 h3.1 z3))
        · rintro _ hne r3 m3 ⟨h3, f3⟩ _ z3 zc
          have yp := yy r3 hne h3 z3
          rw [if_pos yp, if_neg zc] at he st
          exact ih2 _ m3 ⟨f, (s.1 + 1, s.2), by omega, by omega, rfl, he, by rw [← Int.add_assoc]; exact st, h2.fr f3⟩
        · rintro _ hne r3 m3 ⟨h3, f3⟩ _ z3 zc
          have h4 := h2.fr f3
          rw [s3 zc] at h4
          have e16 : m3 188 16 = 0 := h4.2.1
          exact ⟨by omega, by omega, hin2, hin⟩
        · rintro _ hne r3 m3 ⟨h3, f3⟩ _ z3 zc
          have yp := yy r3 hne h3 z3
          rw [if_pos yp, if_pos zc] at he st
          exact ih2 _ _ ⟨f, (s.1 + 1, s.2 ++ [(y : Int), i]), by omega, by omega, rfl, he, by rw [← Int.add_assoc]; exact st, (h2.fr f3).tell2⟩
