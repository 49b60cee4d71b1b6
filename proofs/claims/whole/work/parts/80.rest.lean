/-! ===== rest ===== -/
def a_wet (X : Nat → f_S) : Nat → Int → Int
  | 0 => fun j => if 0 < (X 0).1 j then 0 else -1
  | v + 1 => fun j => if 0 < (X (v + 1)).1 j then ((v + 1 : Nat) : Int) else a_wet X v j
theorem a_wet_in {X : Nat → f_S} : ∀ v : Nat, ∀ j, -1 ≤ a_wet X v j ∧ a_wet X v j ≤ v
  | 0, j => by simp only [a_wet]; split <;> omega
  | v + 1, j => by have := a_wet_in (X := X) v j; simp only [a_wet]; split <;> omega
def a_lw (l w : Int → Int) : Nat → Int
  | 0 => -1
  | k + 1 => if l k = 0 ∧ w k ≠ -1 ∧ (a_lw l w k = -1 ∨ w (a_lw l w k) < w k) then k else a_lw l w k
theorem a_lw_in {l w : Int → Int} : ∀ k : Nat, a_lw l w k = -1 ∨ (0 ≤ a_lw l w k ∧ a_lw l w k < k)
  | 0 => Or.inl rfl
  | k + 1 => by have := a_lw_in (l := l) (w := w) k; simp only [a_lw]; split <;> omega
theorem sp_noteWet {b v : Int} {m : qm} {n : Nat} {l : Int → Int} (hn : m 1 3 = n) (h9 : n ≤ 9) (hl : f_en n (m 27) l) (h0 : ∀ j : Int, 0 ≤ j → j < n → 0 ≤ l j) : q_Ev yX1_noteWet cX1_noteWet 3 none 1 0 0 [(2, 26), (0, v)] (q_sh0, q_rb b, m) (qK (q_rb b) (fun _ m' => (∀ j : Int, 0 ≤ j → j < n → m' 32 j = if 0 < l j then v else m 32 j) ∧ q_fx (fun c i => c = 32) m m')) := by
  refine q_enter (by decide +kernel) (by simp) (Nat.le_of_ble_eq_true rfl) ?_
  refine bkX1_noteWet_0 ?_
  refine q_for (A := fun i m' => q_At yX1_noteWet cX1_noteWet 3 none 1 0 0 _ 2 [(2, 26), (0, v), (0, i)] [] (q_sh0, q_rb b, m')) (fun i m' => 0 ≤ i ∧ q_fx (fun c i => c = 32) m m' ∧ (∀ j : Int, i ≤ j → m' 32 j = m 32 j) ∧ ∀ j : Int, 0 ≤ j → j < i → j < n → m' 32 j = if 0 < l j then v else m 32 j) n ?_ ?_ 0 m ⟨by omega, q_fx.rf, fun _ _ => rfl, fun j a b => absurd a (by omega)⟩
  · rintro i m' hi ⟨i0, f, g1, g⟩
    have e : m' 1 3 = n := (f _ _ (by omega)).trans hn
    exact bkX1_noteWet_2 (fun _ => ⟨fun j a b => g j a (by omega) b, f⟩) (fun z => absurd z (by omega)) (fun z => absurd z (by omega)) (fun z => absurd z (by omega)) (fun z => absurd z (by omega)) (fun z => absurd z (by omega))
  · rintro i m' hi ⟨i0, f, g1, g⟩ ih
    have e : m' 1 3 = n := (f _ _ (by omega)).trans hn
    have el : m' 27 i = l i := (f _ _ (by omega)).trans (hl i i0 hi)
    refine bkX1_noteWet_2 (fun z => absurd z (by omega)) (fun _ => by omega) (fun _ _ => q_in_of (by omega) (by omega)) (fun _ z => ih _ ⟨by omega, f, fun j a => g1 j (by omega), fun j a c d => ?_⟩) (fun _ _ => q_in_of (by omega) (by omega)) (fun _ z => ih _ ⟨by omega, f.up rfl, fun j a => by rw [q_up_i (by omega)]; exact g1 j (by omega), fun j a c d => ?_⟩)
    · by_cases hj : j = i
      · subst hj; rw [if_neg (by omega)]; exact g1 j (by omega)
      · exact g j a (by omega) d
    · by_cases hj : j = i
      · subst hj; rw [if_pos (by omega)]; exact q_up_s
      · rw [q_up_i hj]; exact g j a (by omega) d
theorem sp_lastWet {b : Int} {m : qm} {n : Nat} {l w : Int → Int} (hn : m 1 3 = n) (h9 : n ≤ 9) (hl : f_en n (m 27) l) (hw : f_en n (m 32) w) (h1 : ∀ j : Int, 0 ≤ j → j < n → -1 ≤ w j) : q_Ev yX1_lastWet cX1_lastWet 4 (some .int) 1 0 0 [(2, 26)] (q_sh0, q_rb b, m) (qK (q_rb b) (fun r m' => m' = m ∧ r = a_lw l w n)) := by
  refine q_enter (by decide +kernel) (by simp) (Nat.le_of_ble_eq_true rfl) ?_
  refine bkX1_lastWet_0 ?_
  refine q_for1 (A := fun i (x : Int × Int) m' => q_At yX1_lastWet cX1_lastWet 4 (some .int) 1 0 0 _ 6 [(2, 26), (0, x.1), (0, x.2), (0, i)] [] (q_sh0, q_rb b, m')) (fun i x m' => ∃ y : Nat, i = y ∧ y ≤ n ∧ m' = m ∧ x.1 = a_lw l w y ∧ x.2 = if a_lw l w y = -1 then -1 else w (a_lw l w y)) n ?_ ?_ 0 (-1, -1) m ⟨0, rfl, by omega, rfl, rfl, by simp [a_lw]⟩
  · rintro i ⟨x1, x2⟩ m' hi ⟨y, rfl, hy, rfl, e1, e2⟩
    have : y = n := by omega
    subst this
    exact bkX1_lastWet_6 (fun _ => ⟨rfl, e1⟩) (fun z => absurd z (by omega)) (fun z => absurd z (by omega)) (fun z => absurd z (by omega)) (fun z => absurd z (by omega)) (fun z => absurd z (by omega)) (fun z => absurd z (by omega)) (fun z => absurd z (by omega))
  · rintro i ⟨x1, x2⟩ m' hi ⟨y, rfl, hy, rfl, e1, e2⟩ ih
    have e1 : x1 = a_lw l w y := e1
    have e2 : x2 = if a_lw l w y = -1 then -1 else w (a_lw l w y) := e2
    have el := hl y (by omega) (by omega)
    have ew := hw y (by omega) (by omega)
    have wy := h1 y (by omega) (by omega)
    have li := a_lw_in (l := l) (w := w) y
    have wp : a_lw l w y ≠ -1 → -1 ≤ w (a_lw l w y) := fun z => h1 _ (by omega) (by omega)
    refine bkX1_lastWet_6 (fun z => absurd z (by omega)) (fun _ => by omega) (fun _ _ => q_in_of (by omega) (by omega)) (fun _ z => ?_) (fun _ _ _ => q_in_of (by omega) (by omega)) (fun _ z1 z2 => ?_) (fun _ _ _ => q_in_of (by omega) (by omega)) (fun _ z1 z2 => ?_)
    · have e3 : a_lw l w (y + 1) = a_lw l w y := by simp only [a_lw]; rw [if_neg (by omega)]
      exact ih (x1, x2) m' ⟨y + 1, by omega, by omega, rfl, by rw [e3]; exact e1, by rw [e3]; exact e2⟩
    · have e3 : a_lw l w (y + 1) = a_lw l w y := by
        simp only [a_lw]
        rw [if_neg]
        rintro ⟨-, h2, h3⟩
        by_cases hp : a_lw l w y = -1
        · rw [if_pos hp] at e2; omega
        · rw [if_neg hp] at e2; omega
      exact ih (x1, x2) m' ⟨y + 1, by omega, by omega, rfl, by rw [e3]; exact e1, by rw [e3]; exact e2⟩
    · have e3 : a_lw l w (y + 1) = y := by
        simp only [a_lw]
        rw [if_pos]
        by_cases hp : a_lw l w y = -1
        · rw [if_pos hp] at e2; exact ⟨by omega, by omega, Or.inl hp⟩
        · rw [if_neg hp] at e2; have := wp hp; exact ⟨by omega, by omega, Or.inr (by omega)⟩
      exact ih ((y : Int), m' 32 y) m' ⟨y + 1, by omega, by omega, rfl, by rw [e3], by rw [e3, if_neg (by omega)]; exact ew⟩
theorem op_rest {LW : qm → Prop} (hL : i_Lf LW) {k : Nat} {b : Int} {m : qm} (I : i_I LW k m) :
    q_Ev yX11_rest cX11_rest 2 (some .int) 3 0 0 [(2, 0)] (q_sh0, q_rb b, m) (qK (q_rb b) (fun r m1 => q_Ev yX12_rest cX12_rest 5 (some .int) 2 0 0 [(2, 188)] (q_sh0, q_rb b, m1) (i_O LW (k + 1) r))) := by
  obtain ⟨n, en, T1, T3, W1, W3, K⟩ := i_knowT I
  have h9 := T3.1
  have e0 := T1.1
  generalize hA : a_of m = A at W1 W3 K
  generalize hT : a_Tof m = T at T1 T3 W3 K
  have ok := a_OK0 T3 W3
  obtain ⟨N, hN, q0, q1⟩ := f_rest ok (ht := T.2.2.1) (fun j a b => by
      have z := T3.2 j a b
      exact ⟨by omega, by omega, z.2.2.2.2.2.2.2.2⟩)
  generalize hX : (fun v => f_it n T.2.2.2.2 T.1 T.2.2.2.1 v (a_x0 A)) = X
  have hX' : ∀ v, f_it n T.2.2.2.2 T.1 T.2.2.2.1 v (a_x0 A) = X v := fun v => by rw [← hX]
  have hXs : ∀ v, f_b n T.2.2.2.2 T.1 T.2.2.2.1 (X v) = X (v + 1) := fun v => by rw [← hX]; rfl
  have hX0 : a_x0 A = X 0 := by rw [← hX]; rfl
  have oX : ∀ v, f_OK n T.2.2.2.2 T.1 T.2.2.2.1 (X v) := fun v => by rw [← hX']; exact ok.it v
  have lX : ∀ v, 0 ≤ (X v).2.2 ∧ (X v).2.2 ≤ 81 * v := fun v => by
    have := f_it_lost ok v
    rw [hX'] at this
    have e : (a_x0 A).2.2 = 0 := rfl
    omega
  have nX : ∀ v, ∀ j : Int, 0 ≤ j → j < n → 0 ≤ (X v).1 j := fun v j a b => ((oX v).2 j a b).2.2.2.2.2.2.2.1
  have q0 : ¬ a_mov n T.2.2.2.1 (X N).1 := by rw [← hX']; exact q0
  have q1 : ∀ v : Nat, v < N → a_mov n T.2.2.2.1 (X v).1 := fun v h => by rw [← hX']; exact q1 v h
  clear hX'
  generalize hR : a_lw (X N).1 (a_wet X N) n = R
  refine i_joinT hL I en hA (R := (N : Int)) (o := some [(X N).2.2, R]) (fun l z => by cases z; simp) ?_ ?_
  · refine q_enter (by decide +kernel) (by simp) (Nat.le_of_ble_eq_true rfl) ?_
    refine bkX11_rest_0 (P2 := fun _ m1 _ m2 => (∀ j : Int, 0 ≤ j → j < n → m2 32 j = if 0 < (X 0).1 j then 0 else m1 32 j) ∧ q_fx (fun c i => c = 32) m1 m2) (sp_startW T1 W1 h9) ?_ ?_
    · rintro r1 m1 ⟨g1, g2, f1⟩ _
      refine sp_noteWet g1.1 h9 (l := (X 0).1) ?_ (nX 0)
      rw [← hX0]
      exact fun j a b => (g1.2.2.2.2.2.1 j a b).1
    · rintro r1 m1 ⟨g1, g2, f1⟩ _ r2 m2 ⟨h2, f2⟩ _
      rw [hX0] at g1
      have c2 := (g1.cl (oX 0)).fr f2 (by omega)
      refine q_for (A := fun i m' => q_At yX11_rest cX11_rest 2 (some .int) 3 0 0 _ 21 [(2, 0), (0, i)] [] (q_sh0, q_rb b, m')) (fun i m' => ∃ x : Nat, i = x ∧ x ≤ N ∧ f_cl n m' T.2.2.2.2 T.1 T.2.2.2.1 (X x) ∧ f_en n (m' 32) (a_wet X x) ∧ q_fx x_f m m') N ?_ ?_ 0 m2 ⟨0, rfl, by omega, c2, fun j a b => by rw [h2 j a b, g2 j a (by omega)]; rfl, f1.tr (f2.mono (fun c i z => by unfold x_f; omega))⟩
      · rintro i m' hi ⟨x, rfl, hx, c1, w1, f⟩
        have : x = N := by omega
        subst this
        have h1 := i_rw.tell (v := (X x).2.2) (i_rw.clear (m := m') (q_fx.rf (X := fun c i => x_F c i)))
        rw [show (q_up m' 0 16 0) 0 16 = 0 from q_up_s] at h1
        have hf : q_fx (fun c i => (c = 0 ∧ i = 16) ∨ c = 169) m' (q_up (q_up (q_up m' 0 16 0) 169 0 (X x).2.2) 0 16 (0 + 1)) := ((q_fx.rf.up (Or.inl ⟨rfl, rfl⟩)).up (Or.inr rfl)).up (Or.inl ⟨rfl, rfl⟩)
        have lw : q_Ev yX1_lastWet cX1_lastWet 4 (some .int) 1 0 0 [(2, 26)] (q_sh0, q_rb b, q_up (q_up (q_up m' 0 16 0) 169 0 (X x).2.2) 0 16 (0 + 1)) (qK (q_rb b) (fun r m4 => m4 = q_up (q_up (q_up m' 0 16 0) 169 0 (X x).2.2) 0 16 (0 + 1) ∧ r = R)) := by
          rw [← hR]
          exact sp_lastWet ((hf _ _ (by omega)).trans c1.1.1) h9 (fun j a b => (hf _ _ (by omega)).trans (c1.lv j a b)) (fun j a b => (hf _ _ (by omega)).trans (w1 j a b)) (fun j _ _ => (a_wet_in x j).1)
        refine bkX11_rest_21 (P4 := fun _ _ => True) (P6 := fun r4 m4 => m4 = m' ∧ ((r4 = 1 ∧ ¬ a_mov n T.2.2.2.1 (X x).1) ∨ (r4 = 0 ∧ a_mov n T.2.2.2.1 (X x).1))) (P10 := fun _ _ r4 m4 => m4 = q_up (q_up (q_up m' 0 16 0) 169 0 (X x).2.2) 0 16 (0 + 1) ∧ r4 = R) (P12 := fun _ _ _ _ => True) (P13 := fun _ _ _ _ _ _ => True) (fun z => absurd z (by omega)) (fun z => absurd z (by omega)) (fun z => absurd z (by omega)) (fun z => absurd z (by omega)) (fun _ => sp_isQuietF c1.1.1 h9 c1.2.2.2.1 c1.lv) (fun _ _ _ _ _ _ => by decide) ?_ ?_ ?_ ?_ (fun _ _ _ _ _ _ _ _ _ _ => q_in_of (by omega) (by omega)) ?_ ?_
        · rintro _ r4 m4 ⟨rfl, -⟩ _ _
          rw [c1.lo]; exact lw
        · rintro _ r4 m4 ⟨rfl, -⟩ _ _ r5 m5 ⟨rfl, rfl⟩ _
          exact h1.len (by simp)
        · rintro _ r4 m4 ⟨rfl, -⟩ _ _ r5 m5 ⟨rfl, rfl⟩ _
          have h3 := i_rw.tell (v := r5) h1
          exact ⟨rfl, (f.mono (fun c i z => by unfold x_f at z; unfold x_tC; omega)).tr (h3.1.mono x_F_tC), h3.2.1, h3.2.2⟩
        · rintro _ r4 m4 ⟨rfl, h4⟩ _ z4
          rcases h4 with h4 | h4
          · exact absurd z4 (by omega)
          · exact absurd h4.2 q0
        · rintro _ r4 m4 ⟨rfl, h4⟩ _ z4
          rcases h4 with h4 | h4
          · exact absurd z4 (by omega)
          · exact absurd h4.2 q0
        · rintro _ r4 m4 ⟨rfl, h4⟩ _ z4
          rcases h4 with h4 | h4
          · exact absurd z4 (by omega)
          · exact absurd h4.2 q0
      · rintro i m' hi ⟨x, rfl, hx, c1, w1, f⟩ ih
        have lx := lX x
        refine bkX11_rest_21 (P4 := fun _ _ => True) (P6 := fun r4 m4 => m4 = m' ∧ ((r4 = 1 ∧ ¬ a_mov n T.2.2.2.1 (X x).1) ∨ (r4 = 0 ∧ a_mov n T.2.2.2.1 (X x).1))) (P10 := fun _ _ r4 m4 => True) (P12 := fun _ _ _ m6 => f_cl n m6 T.2.2.2.2 T.1 T.2.2.2.1 (X (x + 1)) ∧ q_fx (fun c i => c = 26 ∨ c = 27 ∨ c = 30 ∨ c = 31) m' m6) (P13 := fun _ _ _ m6 _ m7 => (∀ j : Int, 0 ≤ j → j < n → m7 32 j = if 0 < (X (x + 1)).1 j then (x : Int) + 1 else m6 32 j) ∧ q_fx (fun c i => c = 32) m6 m7) (fun z => absurd z (by omega)) (fun z => absurd z (by omega)) (fun z => absurd z (by omega)) (fun z => absurd z (by omega)) (fun _ => sp_isQuietF c1.1.1 h9 c1.2.2.2.1 c1.lv) (fun _ _ _ _ _ _ => by decide) ?_ ?_ ?_ ?_ (fun _ _ _ _ _ _ _ _ _ _ => q_in_of (by omega) (by omega)) ?_ ?_
        · rintro _ r4 m4 ⟨rfl, h4⟩ _ z4
          rcases h4 with h4 | h4
          · exact absurd (q1 x (by omega)) h4.2
          · exact absurd h4.1 z4
        · rintro _ r4 m4 ⟨rfl, h4⟩ _ z4
          rcases h4 with h4 | h4
          · exact absurd (q1 x (by omega)) h4.2
          · exact absurd h4.1 z4
        · rintro _ r4 m4 ⟨rfl, h4⟩ _ z4
          rcases h4 with h4 | h4
          · exact absurd (q1 x (by omega)) h4.2
          · exact absurd h4.1 z4
        · rintro _ r4 m4 ⟨rfl, h4⟩ _ z4
          rw [← hXs]
          exact sp_strikeF c1 (by omega)
        · rintro _ r4 m4 ⟨rfl, h4⟩ _ z4 r6 m6 ⟨c6, f6⟩ _
          exact sp_noteWet c6.1.1 h9 c6.lv (nX (x + 1))
        · rintro _ r4 m4 ⟨rfl, h4⟩ _ z4 r6 m6 ⟨c6, f6⟩ _ r7 m7 ⟨h7, f7⟩ _
          refine ih m7 ⟨x + 1, by omega, by omega, c6.fr f7 (by omega), fun j a b => ?_, f.tr ((f6.mono (fun c i z => by unfold x_f; omega)).tr (f7.mono (fun c i z => by unfold x_f; omega)))⟩
          rw [h7 j a b, f6 _ _ (by omega), w1 j a b]
          rfl
  · intro m1 f1
    obtain ⟨T2, W2⟩ := K m1 f1
    have e1 := T2.1
    have g0 : q_fx (fun c i => c = 188 ∧ i = 17) m1 (q_up m1 188 17 0) := q_fx.rf.up ⟨rfl, rfl⟩
    refine q_enter (by decide +kernel) (by simp) (Nat.le_of_ble_eq_true rfl) ?_
    refine bkX12_rest_0 (sp_beginW (T2.fr g0 (by omega)) (W2.fr g0 (by omega)) h9) ?_
    rintro r2 m2 ⟨b2, f2⟩ _
    rw [hX0] at b2
    have F2 : q_fx (fun c i => x_g c i ∨ c = 210 ∨ (c = 188 ∧ i = 17)) m1 m2 := (g0.mono (fun c i z => by omega)).tr (f2.mono (fun c i z => by unfold x_g; omega))
    -- telling
    have fin : ∀ m0 : qm, q_fx (fun c i => x_g c i ∨ c = 210 ∨ (c = 188 ∧ i = 17)) m1 m0 → f_rl n m0 T.2.2.2.2 T.1 T.2.2.2.1 (X N) (X N).2.2 → f_en n (m0 210) (a_wet X N) → q_At yX12_rest cX12_rest 5 (some .int) 2 0 0 (qK (q_rb b) (fun r m2 => r = (N : Int) ∧ q_fx x_tM m1 m2 ∧ r_W m2 n A ∧ i_rr m1 m2 (some [(X N).2.2, R]))) 106 [(2, 188), (0, (N : Int)), (0, (X N).2.2), (0, -1), (0, 0)] [] (q_sh0, q_rb b, m0) := by
      intro m0 f0 r0 w0
      refine q_for1 (A := fun i (x : Int) m' => q_At yX12_rest cX12_rest 5 (some .int) 2 0 0 _ 106 [(2, 188), (0, (N : Int)), (0, (X N).2.2), (0, x), (0, i)] [] (q_sh0, q_rb b, m')) (fun i x m' => ∃ y : Nat, i = y ∧ y ≤ n ∧ m' = m0 ∧ x = a_lw (X N).1 (a_wet X N) y) n ?_ ?_ 0 (-1) m0 ⟨0, rfl, by omega, rfl, rfl⟩
      · rintro i x m' hi ⟨y, rfl, hy, rfl, rfl⟩
        have : y = n := by omega
        subst this
        have t0 := r0.1
        refine bkX12_rest_106 (fun _ => by decide) (fun _ => ?_) (fun z => absurd z (by omega)) (fun z => absurd z (by omega)) (fun z => absurd z (by omega)) (fun z => absurd z (by omega)) (fun z => absurd z (by omega)) (fun z => absurd z (by omega)) (fun z => absurd z (by omega)) (fun z => absurd z (by omega)) (fun z => absurd z (by omega)) (fun z => absurd z (by omega)) (fun z => absurd z (by omega)) (fun z => absurd z (by omega))
        rw [hR]
        have h1 := i_mw.tell (v := (X N).2.2) (i_mw.clear (m := m') (q_fx.rf (X := x_G)))
        rw [show (q_up m' 188 16 0) 188 16 = 0 from q_up_s] at h1
        have h2 := i_mw.tell (v := R) h1
        rw [show (q_up (q_up (q_up m' 188 16 0) 199 0 (X N).2.2) 188 16 (0 + 1)) 188 16 = 0 + 1 from q_up_s] at h2
        exact ⟨rfl, (f0.mono (fun c i z => by unfold x_g at z; unfold x_tM; omega)).tr (h2.1.mono x_G_tM), (W2.fr f0 (by unfold x_g; omega)).fr h2.1 (by unfold x_G; omega), h2.2.1, h2.2.2⟩
      · rintro i x m' hi ⟨y, rfl, hy, rfl, rfl⟩ ih
        have t0 := r0.1
        have el := r0.lv y (by omega) (by omega)
        have ew := w0 y (by omega) (by omega)
        have li := a_lw_in (l := (X N).1) (w := a_wet X N) y
        have wp : a_lw (X N).1 (a_wet X N) y ≠ -1 → m' 210 (a_lw (X N).1 (a_wet X N) y) = a_wet X N (a_lw (X N).1 (a_wet X N) y) := fun z => w0 _ (by omega) (by omega)
        have hin : q_in32 ((y : Int) + 1) := q_in_of (by omega) (by omega)
        have same : ¬ ((X N).1 y = 0 ∧ a_wet X N y ≠ -1 ∧ (a_lw (X N).1 (a_wet X N) y = -1 ∨ a_wet X N (a_lw (X N).1 (a_wet X N) y) < a_wet X N y)) → ∃ z : Nat, (y : Int) + 1 = z ∧ z ≤ n ∧ m' = m' ∧ a_lw (X N).1 (a_wet X N) y = a_lw (X N).1 (a_wet X N) z := fun z => ⟨y + 1, by omega, by omega, rfl, by simp only [a_lw]; rw [if_neg z]⟩
        have new : ((X N).1 y = 0 ∧ a_wet X N y ≠ -1 ∧ (a_lw (X N).1 (a_wet X N) y = -1 ∨ a_wet X N (a_lw (X N).1 (a_wet X N) y) < a_wet X N y)) → ∃ z : Nat, (y : Int) + 1 = z ∧ z ≤ n ∧ m' = m' ∧ (y : Int) = a_lw (X N).1 (a_wet X N) z := fun z => ⟨y + 1, by omega, by omega, rfl, by simp only [a_lw]; rw [if_pos z]⟩
        refine bkX12_rest_106 (fun z => absurd z (by omega)) (fun z => absurd z (by omega)) (fun _ => by omega) (fun _ _ => hin) (fun _ z => ih _ _ (same (by omega))) (fun _ _ _ => hin) (fun _ _ z => ih _ _ (same (by omega))) (fun _ _ _ _ => hin) (fun _ z1 z2 z3 => ih _ _ (new ⟨by omega, by omega, Or.inl z3⟩)) (fun _ _ _ z => by clear same new; omega) (fun _ _ _ _ _ => hin) (fun _ z1 z2 z3 z4 => ih _ _ (same (by have := wp z3; omega))) (fun _ _ _ _ _ => hin) (fun _ z1 z2 z3 z4 => ih _ _ (new ⟨by omega, by omega, Or.inr (by have := wp z3; omega)⟩))
    -- bells
    have go : ∀ d : Nat, ∀ (x : Nat) (m0 : qm), x + d = N → q_fx (fun c i => x_g c i ∨ c = 210 ∨ (c = 188 ∧ i = 17)) m1 m0 → f_rl n m0 T.2.2.2.2 T.1 T.2.2.2.1 (X x) (X x).2.2 → f_en n (m0 210) (a_wet X x) → q_At yX12_rest cX12_rest 5 (some .int) 2 0 0 (qK (q_rb b) (fun r m2 => r = (N : Int) ∧ q_fx x_tM m1 m2 ∧ r_W m2 n A ∧ i_rr m1 m2 (some [(X N).2.2, R]))) 49 [(2, 188), (0, (x : Int)), (0, (X x).2.2), (4, 0), (4, 0)] [] (q_sh0, q_rb b, m0) := by
      intro d
      induction d with
      | zero =>
        intro x m0 hx f0 r0 w0
        have : x = N := by omega
        subst this
        refine bkX12_rest_49 (sp_isMoving r0.1 h9 r0.2.2.2.1 r0.lv) (P3 := fun _ _ _ _ => True) ?_ ?_ ?_ ?_
        · rintro r4 m4 ⟨rfl, -⟩ _ _
          exact fin m4 f0 r0 w0
        · rintro r4 m4 ⟨rfl, h4⟩ _ z4
          rcases h4 with h4 | h4
          · exact absurd h4.1 z4
          · exact absurd h4.2 q0
        · rintro r4 m4 ⟨rfl, h4⟩ _ z4
          rcases h4 with h4 | h4
          · exact absurd h4.1 z4
          · exact absurd h4.2 q0
        · rintro r4 m4 ⟨rfl, h4⟩ _ z4
          rcases h4 with h4 | h4
          · exact absurd h4.1 z4
          · exact absurd h4.2 q0
      | succ d ih =>
        intro x m0 hx f0 r0 w0
        have lx := lX x
        refine bkX12_rest_49 (sp_isMoving r0.1 h9 r0.2.2.2.1 r0.lv) (P3 := fun _ _ r m6 => f_rl n m6 T.2.2.2.2 T.1 T.2.2.2.1 (X (x + 1)) ((X x).2.2 + r) ∧ 0 ≤ r ∧ r ≤ 81 ∧ q_fx f_X m0 m6) ?_ ?_ ?_ ?_
        · rintro r4 m4 ⟨rfl, h4⟩ _ z4
          rcases h4 with h4 | h4
          · exact absurd (q1 x (by omega)) h4.2
          · exact absurd z4 (by omega)
        · rintro r4 m4 ⟨rfl, h4⟩ _ z4
          rw [← hXs]
          exact sp_goOnF r0 (oX x)
        · rintro r4 m4 ⟨rfl, h4⟩ _ z4 r6 m6 ⟨r6', l6, u6, f6⟩ _
          exact ⟨q_in_of (by omega) (by omega), q_in_of (by omega) (by omega)⟩
        · rintro r4 m4 ⟨rfl, h4⟩ _ z4 r6 m6 ⟨r6', l6, u6, f6⟩ _
          have el := r6'.lo
          rw [el] at r6' ⊢
          have w6 : f_en n (m6 210) (a_wet X x) := fun j a b => (f6 _ _ (by unfold f_X; omega)).trans (w0 j a b)
          have F6 : q_fx (fun c i => x_g c i ∨ c = 210 ∨ (c = 188 ∧ i = 17)) m1 m6 := f0.tr (f6.mono (fun c i z => by unfold f_X at z; unfold x_g; omega))
          refine q_for (A := fun i m' => q_At yX12_rest cX12_rest 5 (some .int) 2 0 0 _ 68 [(2, 188), (0, (x : Int) + 1), (0, (X (x + 1)).2.2), (0, i), (4, 0)] [] (q_sh0, q_rb b, m')) (fun i m' => 0 ≤ i ∧ q_fx (fun c i => c = 210) m6 m' ∧ (∀ j : Int, i ≤ j → j < n → m' 210 j = a_wet X x j) ∧ ∀ j : Int, 0 ≤ j → j < i → j < n → m' 210 j = a_wet X (x + 1) j) n ?_ ?_ 0 m6 ⟨by omega, q_fx.rf, fun j a b => w6 j a b, fun j a b => absurd a (by omega)⟩
          · rintro i m' hi ⟨i0, f, g1, g⟩
            have t0 : m' 188 0 = n := (f _ _ (by omega)).trans r6'.1
            refine bkX12_rest_68 (fun _ => ?_) (fun z => absurd z (by omega)) (fun z => absurd z (by omega)) (fun z => absurd z (by omega)) (fun z => absurd z (by omega)) (fun z => absurd z (by omega))
            have := ih (x + 1) m' (by omega) (F6.tr (f.mono (fun c i z => by omega))) (r6'.fr f (by omega)) (fun j a b => g j a (by omega) b)
            exact this
          · rintro i m' hi ⟨i0, f, g1, g⟩ ih2
            have t0 : m' 188 0 = n := (f _ _ (by omega)).trans r6'.1
            have el : m' 207 i = (X (x + 1)).1 i := (f _ _ (by omega)).trans (r6'.lv i i0 hi)
            refine bkX12_rest_68 (fun z => absurd z (by omega)) (fun _ => by omega) (fun _ _ => q_in_of (by omega) (by omega)) (fun _ z => ih2 _ ⟨by omega, f, fun j a => g1 j (by omega), fun j a c d => ?_⟩) (fun _ _ => q_in_of (by omega) (by omega)) (fun _ z => ih2 _ ⟨by omega, f.up rfl, fun j a => by rw [q_up_i (by omega)]; exact g1 j (by omega), fun j a c d => ?_⟩)
            · by_cases hj : j = i
              · subst hj; simp only [a_wet]; rw [if_neg (by omega)]; exact g1 j (by omega) hi
              · exact g j a (by omega) d
            · by_cases hj : j = i
              · subst hj; simp only [a_wet]; rw [if_pos (by omega)]; exact q_up_s
              · rw [q_up_i hj]; exact g j a (by omega) d
    -- the first
    refine q_for (A := fun i m' => q_At yX12_rest cX12_rest 5 (some .int) 2 0 0 _ 11 [(2, 188), (0, i), (4, 0), (4, 0), (4, 0)] [] (q_sh0, q_rb b, m')) (fun i m' => 0 ≤ i ∧ q_fx (fun c i => c = 210) m2 m' ∧ ∀ j : Int, 0 ≤ j → j < i → j < n → m' 210 j = a_wet X 0 j) n ?_ ?_ 0 m2 ⟨by omega, q_fx.rf, fun j a b => absurd a (by omega)⟩
    · rintro i m' hi ⟨i0, f, g⟩
      have t0 : m' 188 0 = n := (f _ _ (by omega)).trans b2.1
      refine bkX12_rest_11 (fun _ => ?_) (fun z => absurd z (by omega)) (fun z => absurd z (by omega)) (fun z => absurd z (by omega)) (fun z => absurd z (by omega)) (fun z => absurd z (by omega))
      have l0 := b2.lo
      have := go N 0 m' (by omega) (F2.tr (f.mono (fun c i z => by omega))) (by rw [← l0]; exact b2.fr f (by omega)) (fun j a b => g j a (by omega) b)
      rw [← l0] at this
      exact this
    · rintro i m' hi ⟨i0, f, g⟩ ih2
      have t0 : m' 188 0 = n := (f _ _ (by omega)).trans b2.1
      have el : m' 207 i = (X 0).1 i := (f _ _ (by omega)).trans (b2.lv i i0 hi)
      refine bkX12_rest_11 (fun z => absurd z (by omega)) (fun _ => by omega) (fun _ _ => q_in_of (by omega) (by omega)) (fun _ z => ih2 _ ⟨by omega, f.up rfl, fun j a c d => ?_⟩) (fun _ _ => q_in_of (by omega) (by omega)) (fun _ z => ih2 _ ⟨by omega, f.up rfl, fun j a c d => ?_⟩)
      · by_cases hj : j = i
        · subst hj; simp only [a_wet]; rw [if_neg (by omega)]; exact q_up_s
        · rw [q_up_i hj]; exact g j a (by omega) d
      · by_cases hj : j = i
        · subst hj; simp only [a_wet]; rw [if_pos (by omega)]; exact q_up_s
        · rw [q_up_i hj]; exact g j a (by omega) d
