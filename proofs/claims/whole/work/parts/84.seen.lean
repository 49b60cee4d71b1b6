/-! ===== what was seen, against a flow ===== -/
abbrev a_S : Type := Int × (Int → Int) × (Int → Int) × (Int → Int)
def a_Sof (m : qm) : a_S := (m 188 49, fun i => m 220 (3 * i), fun i => m 220 (3 * i + 1), fun i => m 220 (3 * i + 2))
def c_S (m : qm) (S : a_S) : Prop := m 159 3 = S.1 ∧ ∀ i, 0 ≤ i → i < S.1 → m 160 i = S.2.1 i ∧ m 161 i = S.2.2.1 i ∧ m 162 i = S.2.2.2 i
def r_S (m : qm) (S : a_S) : Prop := m 188 49 = S.1 ∧ ∀ i, 0 ≤ i → i < S.1 → m 220 (3 * i) = S.2.1 i ∧ m 220 (3 * i + 1) = S.2.2.1 i ∧ m 220 (3 * i + 2) = S.2.2.2 i
def a_SV (n : Nat) (S : a_S) : Prop := 0 ≤ S.1 ∧ S.1 ≤ 10 ∧ ∀ i, 0 ≤ i → i < S.1 → 0 ≤ S.2.1 i ∧ S.2.1 i < n ∧ 0 ≤ S.2.2.1 i ∧ S.2.2.1 i ≤ 200
def a_so (S : a_S) (X : Nat → f_S) : Prop := ∀ i, 0 ≤ i → i < S.1 → (X (S.2.2.1 i).toNat).1 (S.2.1 i) = S.2.2.2 i
theorem c_S.fr {m m' : qm} {S : a_S} {X : Int → Int → Prop} (h : c_S m S) (hf : q_fx X m m') (hd : ∀ c i, (c = 159 ∧ i = 3) ∨ (160 ≤ c ∧ c ≤ 162) → ¬ X c i) : c_S m' S := by
  have e : ∀ c i, (c = 159 ∧ i = 3) ∨ (160 ≤ c ∧ c ≤ 162) → m' c i = m c i := fun c i z => hf c i (hd c i z)
  exact ⟨(e _ _ (by omega)).trans h.1, fun i a b => ⟨(e _ _ (by omega)).trans (h.2 i a b).1, (e _ _ (by omega)).trans (h.2 i a b).2.1, (e _ _ (by omega)).trans (h.2 i a b).2.2⟩⟩
theorem r_S.fr {m m' : qm} {S : a_S} {X : Int → Int → Prop} (h : r_S m S) (hf : q_fx X m m') (hd : ∀ c i, (c = 188 ∧ i = 49) ∨ c = 220 → ¬ X c i) : r_S m' S := by
  have e : ∀ c i, (c = 188 ∧ i = 49) ∨ c = 220 → m' c i = m c i := fun c i z => hf c i (hd c i z)
  exact ⟨(e _ _ (by omega)).trans h.1, fun i a b => ⟨(e _ _ (by omega)).trans (h.2 i a b).1, (e _ _ (by omega)).trans (h.2 i a b).2.1, (e _ _ (by omega)).trans (h.2 i a b).2.2⟩⟩
theorem i_knowS {LW : qm → Prop} {k : Nat} {m : qm} (I : i_I LW k m) : ∃ n : Nat, m 188 0 = n ∧ c_T m n (a_Tof m) ∧ a_TV n (a_Tof m) ∧ c_W m 5 n (a_of m) ∧ a_V (1500 * k) n (a_Tof m).1 (a_of m) ∧ (∀ m1, q_fx x_tC m m1 → r_T m1 n (a_Tof m) ∧ r_W m1 n (a_of m)) ∧ c_S m (a_Sof m) ∧ a_SV n (a_Sof m) ∧ ∀ m1, q_fx x_tC m m1 → r_S m1 (a_Sof m) := by
  obtain ⟨n, t, p, a, x, r, s, -⟩ := I
  obtain ⟨T1, T2, T3⟩ := a_T_of t p
  obtain ⟨W1, W2, W3⟩ := a_N_of a
  obtain ⟨s1, s2, s3, s4⟩ := s
  have R : r_S m (a_Sof m) := ⟨rfl, fun i a b => ⟨rfl, rfl, rfl⟩⟩
  exact ⟨n, t.2.2.1, T1, T3, W1, W3, fun m1 f => ⟨T2.fr f (by unfold x_tC; omega), W2.fr f (by unfold x_tC; omega)⟩, ⟨s1, fun i a b => ⟨(s4 i a b).1, (s4 i a b).2.1, (s4 i a b).2.2.1⟩⟩, ⟨s2, s3, fun i a b => ⟨(s4 i a b).2.2.2.1, (s4 i a b).2.2.2.2.1, (s4 i a b).2.2.2.2.2.1, (s4 i a b).2.2.2.2.2.2.1⟩⟩, fun m1 f => R.fr f (by unfold x_tC; omega)⟩
theorem sp_fit {b : Int} {m : qm} {n : Nat} {u c h : Int → Int} {x : f_S} {S : a_S} (cS : c_S m S) (sv : a_SV n S) (h9 : n ≤ 9) (g : f_cl n m u c h x) (ok : f_OK n u c h x) (hx : x.2.2 = 0) : q_Ev yX5_fit cX5_fit 4 (some .boolean) 4 0 0 [(2, 159), (2, 26)] (q_sh0, q_rb b, m) (qK (q_rb b) (fun r m' => ((r = 1 ∧ a_so S (fun v => f_it n u c h v x)) ∨ (r = 0 ∧ ¬ a_so S (fun v => f_it n u c h v x))) ∧ q_fx x_f m m')) := by
  obtain ⟨s1, s2, s3⟩ := sv
  refine q_enter (by decide +kernel) (by simp) (Nat.le_of_ble_eq_true rfl) ?_
  refine bkX5_fit_0 (P1 := fun r m1 => m1 = m ∧ -1 ≤ r ∧ r ≤ 200 ∧ ∀ i, 0 ≤ i → i < S.1 → S.2.2.1 i ≤ r) ?_ ?_
  · refine q_enter (by decide +kernel) (by simp) (Nat.le_of_ble_eq_true rfl) ?_
    refine bkX5_lastBell_0 ?_
    have e := cS.1
    refine q_for1 (A := fun i (x : Int) m' => q_At yX5_lastBell cX5_lastBell 3 (some .int) 1 0 0 _ 4 [(2, 159), (0, x), (0, i)] [] (q_sh0, q_rb b, m')) (fun i x m' => 0 ≤ i ∧ m' = m ∧ -1 ≤ x ∧ x ≤ 200 ∧ ∀ q, 0 ≤ q → q < i → q < S.1 → S.2.2.1 q ≤ x) S.1 ?_ ?_ 0 (-1) m ⟨by omega, rfl, by omega, by omega, fun q a b => absurd a (by omega)⟩
    · rintro i x m' hi ⟨i0, rfl, x0, x1, hq⟩
      exact bkX5_lastBell_4 (fun _ => ⟨rfl, x0, x1, fun q a b => hq q a (by omega) b⟩) (fun z => absurd z (by omega)) (fun z => absurd z (by omega))
    · rintro i x m' hi ⟨i0, rfl, x0, x1, hq⟩ ih
      have e2 := (cS.2 i i0 hi).2.1
      have s4 := s3 i i0 hi
      refine bkX5_lastBell_4 (fun z => absurd z (by omega)) (fun _ => ⟨by omega, q_in_of (by omega) (by omega)⟩) (fun _ => ih _ _ ⟨by omega, rfl, by omega, by omega, fun q a b c => ?_⟩)
      by_cases hqi : q = i
      · subst hqi; omega
      · have := hq q a (by omega) c; omega
  · rintro last m1 ⟨rfl, l0, l1, hl⟩ _
    refine q_for' (A := fun i (_ : Unit) m' => q_At yX5_fit cX5_fit 4 (some .boolean) 4 0 0 _ 7 [(2, 159), (2, 26), (0, last), (0, i)] [] (q_sh0, q_rb b, m')) (fun i _ m' => ∃ w : Nat, i = w ∧ (w : Int) ≤ last + 1 ∧ f_cl n m' u c h (f_it n u c h w x) ∧ q_fx x_f m1 m' ∧ ∀ q, 0 ≤ q → q < S.1 → S.2.2.1 q < w → (f_it n u c h (S.2.2.1 q).toNat x).1 (S.2.1 q) = S.2.2.2 q) last ?_ ?_ 0 () m1 ⟨0, rfl, by omega, g, q_fx.rf, fun q a b c => absurd (s3 q a b).2.2.1 (by omega)⟩
    · rintro i _ m' hi ⟨w, rfl, hw, c1, f1, hq⟩
      exact bkX5_fit_7 (P2 := fun _ _ => True) (P4 := fun _ _ _ _ => True) (fun _ => ⟨Or.inl ⟨rfl, fun q a b => hq q a b (by have := hl q a b; omega)⟩, f1⟩) (fun z => absurd z (by omega)) (fun z => absurd z (by omega)) (fun z => absurd z (by omega)) (fun z => absurd z (by omega)) (fun z => absurd z (by omega))
    · rintro i _ m' hi ⟨w, rfl, hw, c1, f1, hq⟩ ih
      have cS' := cS.fr f1 (by unfold x_f; omega)
      have e := cS'.1
      have lo := f_it_lost ok w
      refine bkX5_fit_7 (P2 := fun r m2 => m2 = m' ∧ ((r = 1 ∧ ∀ q, 0 ≤ q → q < S.1 → S.2.2.1 q = w → (f_it n u c h w x).1 (S.2.1 q) = S.2.2.2 q) ∨ (r = 0 ∧ ¬ a_so S (fun v => f_it n u c h v x)))) (P4 := fun _ _ _ m4 => f_cl n m4 u c h (f_it n u c h (w + 1) x) ∧ q_fx x_f m' m4) (fun z => absurd z (by omega)) (fun _ => ?_) ?_ (fun _ _ _ _ _ _ _ _ _ _ => q_in_of (by omega) (by omega)) ?_ ?_
      · refine q_enter (by decide +kernel) (by simp) (Nat.le_of_ble_eq_true rfl) ?_
        refine bkX5_fitAt_0 ?_
        refine q_for (A := fun i m' => q_At yX5_fitAt cX5_fitAt 4 (some .boolean) 1 0 0 _ 2 [(2, 159), (0, (w : Int)), (2, 26), (0, i)] [] (q_sh0, q_rb b, m')) (fun i m2 => 0 ≤ i ∧ m2 = m' ∧ ∀ q, 0 ≤ q → q < i → q < S.1 → S.2.2.1 q = w → (f_it n u c h w x).1 (S.2.1 q) = S.2.2.2 q) S.1 ?_ ?_ 0 m' ⟨by omega, rfl, fun q a b => absurd a (by omega)⟩
        · rintro i m2 hi ⟨i0, rfl, hh⟩
          exact bkX5_fitAt_2 (fun _ => ⟨rfl, Or.inl ⟨rfl, fun q a b => hh q a (by omega) b⟩⟩) (fun z => absurd z (by omega)) (fun z => absurd z (by omega)) (fun z => absurd z (by omega)) (fun z => absurd z (by omega)) (fun z => absurd z (by omega)) (fun z => absurd z (by omega)) (fun z => absurd z (by omega))
        · rintro i m2 hi ⟨i0, rfl, hh⟩ ih2
          obtain ⟨e1, e2, e3⟩ := cS'.2 i i0 hi
          have s4 := s3 i i0 hi
          have el := c1.lv (S.2.1 i) s4.1 s4.2.1
          refine bkX5_fitAt_2 (fun z => absurd z (by omega)) (fun _ => by omega) (fun _ _ => q_in_of (by omega) (by omega)) (fun _ z => ih2 _ ⟨by omega, rfl, fun q a b d e => ?_⟩) (fun _ _ => by omega) (fun _ _ _ => q_in_of (by omega) (by omega)) (fun _ z1 z2 => ih2 _ ⟨by omega, rfl, fun q a b d e => ?_⟩) (fun _ z1 z2 => ⟨rfl, Or.inr ⟨rfl, fun so => ?_⟩⟩)
          · by_cases hqi : q = i
            · subst hqi; omega
            · exact hh q a (by omega) d e
          · by_cases hqi : q = i
            · subst hqi; rw [e1, e3] at z2; rw [← el]; exact z2
            · exact hh q a (by omega) d e
          · have := so i i0 hi
            rw [show (S.2.2.1 i).toNat = w by omega] at this
            rw [e1, e3] at z2
            exact z2 (el.trans this)
      · rintro _ r2 m2 ⟨rfl, -⟩ _ _
        have := sp_allF (b := b) c1 1 (by omega)
        exact this.post (fun r m4 z => ⟨z.1, z.2.mono (fun c i y => by unfold x_f; omega)⟩)
      · rintro _ r2 m2 ⟨rfl, h2⟩ _ z2 r4 m4 ⟨c4, f4⟩ _
        have h2 := (h2.resolve_right (fun y => z2 y.1)).2
        refine ih () m4 ⟨w + 1, by omega, by omega, c4, f1.tr f4, fun q a b c => ?_⟩
        by_cases hqw : S.2.2.1 q = w
        · rw [show (S.2.2.1 q).toNat = w by omega]; exact h2 q a b hqw
        · exact hq q a b (by omega)
      · rintro _ r2 m2 ⟨rfl, h2⟩ _ z2
        have h2 := (h2.resolve_left (fun y => absurd z2 (by omega))).2
        exact ⟨Or.inr ⟨rfl, h2⟩, f1⟩
theorem sp_isSo {b : Int} {m : qm} {n : Nat} {u c h : Int → Int} {x : f_S} {S : a_S} (cS : r_S m S) (sv : a_SV n S) (h9 : n ≤ 9) (g : f_rl n m u c h x 0) (ok : f_OK n u c h x) : q_Ev yX12_isSo cX12_isSo 4 (some .boolean) 2 0 0 [(2, 188)] (q_sh0, q_rb b, m) (qK (q_rb b) (fun r m' => ((r = 1 ∧ a_so S (fun v => f_it n u c h v x)) ∨ (r = 0 ∧ ¬ a_so S (fun v => f_it n u c h v x))) ∧ q_fx x_g m m')) := by
  obtain ⟨s1, s2, s3⟩ := sv
  refine q_enter (by decide +kernel) (by simp) (Nat.le_of_ble_eq_true rfl) ?_
  refine bkX12_isSo_0 ?_
  have e := cS.1
  have main : ∀ last : Int, 0 ≤ last → last ≤ 200 → (∀ i, 0 ≤ i → i < S.1 → S.2.2.1 i ≤ last) → q_At yX12_isSo cX12_isSo 4 (some .boolean) 2 0 0 (qK (q_rb b) (fun r m' => ((r = 1 ∧ a_so S (fun v => f_it n u c h v x)) ∨ (r = 0 ∧ ¬ a_so S (fun v => f_it n u c h v x))) ∧ q_fx x_g m m')) 35 [(2, 188), (0, last), (0, 0), (4, 0)] [] (q_sh0, q_rb b, m) := by
    intro last l0 l1 hl
    refine q_for' (A := fun i (_ : Unit) m' => q_At yX12_isSo cX12_isSo 4 (some .boolean) 2 0 0 _ 35 [(2, 188), (0, last), (0, i), (4, 0)] [] (q_sh0, q_rb b, m')) (fun i _ m' => ∃ (w : Nat) (y : Int), i = w ∧ (w : Int) ≤ last + 1 ∧ f_rl n m' u c h (f_it n u c h w x) y ∧ q_fx x_g m m' ∧ ∀ q, 0 ≤ q → q < S.1 → S.2.2.1 q < w → (f_it n u c h (S.2.2.1 q).toNat x).1 (S.2.1 q) = S.2.2.2 q) last ?_ ?_ 0 () m ⟨0, 0, rfl, by omega, g, q_fx.rf, fun q a b c => absurd (s3 q a b).2.2.1 (by omega)⟩
    · rintro i _ m' hi ⟨w, y, rfl, hw, c1, f1, hq⟩
      exact bkX12_isSo_35 (fun _ => ⟨Or.inl ⟨rfl, fun q a b => hq q a b (by have := hl q a b; omega)⟩, f1⟩) (fun z => absurd z (by omega))
    · rintro i _ m' hi ⟨w, y, rfl, hw, c1, f1, hq⟩ ih
      have cS' := cS.fr f1 (by unfold x_g; omega)
      have e := cS'.1
      refine bkX12_isSo_35 (fun z => absurd z (by omega)) (fun _ => ?_)
      refine q_for (A := fun i m' => q_At yX12_isSo cX12_isSo 4 (some .boolean) 2 0 0 _ 42 [(2, 188), (0, last), (0, (w : Int)), (0, i)] [] (q_sh0, q_rb b, m')) (fun i m2 => 0 ≤ i ∧ m2 = m' ∧ ∀ q, 0 ≤ q → q < i → q < S.1 → S.2.2.1 q = w → (f_it n u c h w x).1 (S.2.1 q) = S.2.2.2 q) S.1 ?_ ?_ 0 m' ⟨by omega, rfl, fun q a b => absurd a (by omega)⟩
      · rintro i m2 hi ⟨i0, rfl, hh⟩
        refine bkX12_isSo_42 (P2 := fun r m4 => f_rl n m4 u c h (f_it n u c h (w + 1) x) (y + r) ∧ q_fx x_g m2 m4) (fun _ => ?_) (fun _ _ _ _ _ => q_in_of (by omega) (by omega)) ?_ (fun z => absurd z (by omega)) (fun z => absurd z (by omega)) (fun z => absurd z (by omega)) (fun z => absurd z (by omega)) (fun z => absurd z (by omega)) (fun z => absurd z (by omega)) (fun z => absurd z (by omega))
        · exact (sp_goOnF c1 (ok.it w)).post (fun r m4 z => ⟨z.1, z.2.2.2.mono (fun c i y => by unfold f_X at y; unfold x_g; omega)⟩)
        · rintro _ r4 m4 ⟨c4, f4⟩ _
          refine ih () m4 ⟨w + 1, y + r4, by omega, by omega, c4, f1.tr f4, fun q a b c => ?_⟩
          by_cases hqw : S.2.2.1 q = w
          · rw [show (S.2.2.1 q).toNat = w by omega]; exact hh q a (by omega) b hqw
          · exact hq q a b (by omega)
      · rintro i m2 hi ⟨i0, rfl, hh⟩ ih2
        obtain ⟨e1, e2, e3⟩ := cS'.2 i i0 hi
        have s4 := s3 i i0 hi
        have el := c1.lv (S.2.1 i) s4.1 s4.2.1
        refine bkX12_isSo_42 (P2 := fun _ _ => True) (fun z => absurd z (by omega)) (fun z => absurd z (by omega)) (fun z => absurd z (by omega)) (fun _ => ⟨q_in_of (by omega) (by omega), q_in_of (by omega) (by omega), by omega⟩) (fun _ _ => q_in_of (by omega) (by omega)) (fun _ z => ih2 _ ⟨by omega, rfl, fun q a b d e => ?_⟩) (fun _ _ => ⟨by omega, by omega, q_in_of (by omega) (by omega), by omega⟩) (fun _ _ _ => q_in_of (by omega) (by omega)) (fun _ z1 z2 => ih2 _ ⟨by omega, rfl, fun q a b d e => ?_⟩) (fun _ z1 z2 => ⟨Or.inr ⟨rfl, fun so => ?_⟩, f1⟩)
        · by_cases hqi : q = i
          · subst hqi; omega
          · exact hh q a (by omega) d e
        · by_cases hqi : q = i
          · subst hqi; rw [e1, e3] at z2; rw [← el]; exact z2
          · exact hh q a (by omega) d e
        · have := so i i0 hi
          rw [show (S.2.2.1 i).toNat = w by omega] at this
          rw [e1, e3] at z2
          exact z2 (el.trans this)
  refine q_for1 (A := fun i (x : Int) m' => q_At yX12_isSo cX12_isSo 4 (some .boolean) 2 0 0 _ 4 [(2, 188), (0, x), (0, i), (4, 0)] [] (q_sh0, q_rb b, m')) (fun i x m' => 0 ≤ i ∧ m' = m ∧ 0 ≤ x ∧ x ≤ 200 ∧ ∀ q, 0 ≤ q → q < i → q < S.1 → S.2.2.1 q ≤ x) S.1 ?_ ?_ 0 0 m ⟨by omega, rfl, by omega, by omega, fun q a b => absurd a (by omega)⟩
  · rintro i x m' hi ⟨i0, rfl, x0, x1, hq⟩
    exact bkX12_isSo_4 (fun _ => main x x0 x1 (fun q a b => hq q a (by omega) b)) (fun z => absurd z (by omega)) (fun z => absurd z (by omega))
  · rintro i x m' hi ⟨i0, rfl, x0, x1, hq⟩ ih
    have e2 := (cS.2 i i0 hi).2.1
    have s4 := s3 i i0 hi
    refine bkX12_isSo_4 (fun z => absurd z (by omega)) (fun _ => ⟨q_in_of (by omega) (by omega), q_in_of (by omega) (by omega), by omega, q_in_of (by omega) (by omega)⟩) (fun _ => ih _ _ ⟨by omega, rfl, by omega, by omega, fun q a b c => ?_⟩)
    by_cases hqi : q = i
    · subst hqi; omega
    · have := hq q a (by omega) c; omega
