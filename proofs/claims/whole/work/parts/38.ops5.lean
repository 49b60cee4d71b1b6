/-! soonest, latest -/
abbrev g_payAt (n : Nat) (m : qm) (x y : Int) (v : Nat) : Prop := g_pay n (m 192) (m 189) (i_f n m v).1 (m 197 (6 * x + y)) x y
def a_soonN (n : Nat) (m : qm) (x y : Int) : Nat → Nat → Int
  | 0, _ => -2
  | f + 1, v => if g_payAt n m x y v then v else a_soonN n m x y f (v + 1)
def a_lastN (n : Nat) (m : qm) (x y : Int) : Nat → Int
  | 0 => -2
  | v + 1 => if g_payAt n m x y v then v else a_lastN n m x y v
def a_soonest (n : Nat) (m : qm) (x y : Int) : Int := if g_own x y then a_soonN n m x y 201 0 else -1
def a_latest (n : Nat) (m : qm) (x y : Int) : Int := if g_own x y then a_lastN n m x y 201 else -1
theorem g_payAt_fr {n : Nat} {m m' : qm} (hf : q_fx x_F m m') (x y : Int) (v : Nat) : g_payAt n m' x y v ↔ g_payAt n m x y v := by
  unfold g_payAt
  rw [x_F.row hf (c := 192) (by decide), x_F.row hf (c := 189) (by decide), x_F.row hf (c := 197) (by decide), i_f_fr hf (by intro c i; simp only [x_F]; omega)]
theorem a_soonN_fr {n : Nat} {m m' : qm} (hf : q_fx x_F m m') (x y : Int) : ∀ f v : Nat, a_soonN n m' x y f v = a_soonN n m x y f v
  | 0, _ => rfl
  | f + 1, v => by
    simp only [a_soonN]
    rw [a_soonN_fr hf x y f (v + 1)]
    by_cases h : g_payAt n m x y v
    · rw [if_pos h, if_pos ((g_payAt_fr hf x y v).mpr h)]
    · rw [if_neg h, if_neg (fun q => h ((g_payAt_fr hf x y v).mp q))]
theorem a_lastN_fr {n : Nat} {m m' : qm} (hf : q_fx x_F m m') (x y : Int) : ∀ v : Nat, a_lastN n m' x y v = a_lastN n m x y v
  | 0 => rfl
  | v + 1 => by
    simp only [a_lastN]
    rw [a_lastN_fr hf x y v]
    by_cases h : g_payAt n m x y v
    · rw [if_pos h, if_pos ((g_payAt_fr hf x y v).mpr h)]
    · rw [if_neg h, if_neg (fun q => h ((g_payAt_fr hf x y v).mp q))]
/-- the class asks whether it can be paid, v bells on -/
theorem i_cpay {k n : Nat} {b : Int} {m m' : qm} {v : Nat} (h : i_B k n m) (ok : f_OK n (m 194) (m 189) (m 191) (m 190, m 195, 0)) (hc : i_cf n m v m') {x y : Int} (ho : g_own x y) : q_Ev yX11_couldPay cX11_couldPay 5 (some .boolean) 2 0 0 [(2, 0), (0, x), (0, y), (2, 27)] (q_sh0, q_rb b, m') (qK (q_rb b) (fun r m2 => m2 = m' ∧ ((r = 1 ∧ g_payAt n m x y v) ∨ (r = 0 ∧ ¬ g_payAt n m x y v)))) := by
  obtain ⟨e1, e2, e3, e4, e5⟩ := i_rows h
  have t1 := h.1.1
  have f := i_cf_fx hc
  have el : f_en n (m' 27) (i_f n m v).1 := fun j a0 a1 => (hc.2.2.2.2.1.1 j a0 a1).1
  have e2' : f_en n (m' 2) (m 189) := hc.2.2.1
  have e1' : f_en n (m' 3) (m 192) := by rw [x_F.row f (c := 3) (by decide)]; exact e1
  have ed : m' 12 (6 * x + y) = m 197 (6 * x + y) := by rw [x_F.row f (c := 12) (by decide)]; exact (e5 _ (by omega) (by omega)).1
  have lim := (ok.it v).2
  refine (sp_couldPay qs27 n hc.1.1 t1 (fun j a0 a1 => ?_) ho.1 ho.2.1).post ?_
  · rw [el j a0 a1, e2' j a0 a1]
    have z := lim j a0 a1
    exact ⟨z.2.2.2.2.2.2.2.1, z.2.2.2.2.2.2.2.2, z.2.2.1⟩
  · rintro r m2 ⟨rfl, hh⟩
    rw [g_pay_en e1' e2' el, ed] at hh
    exact ⟨rfl, hh⟩
theorem i_mpay {k n : Nat} {b : Int} {m m' : qm} {v : Nat} {z0 : Int} (h : i_B k n m) (ok : f_OK n (q_up m 188 17 0 194) (q_up m 188 17 0 189) (q_up m 188 17 0 191) (q_up m 188 17 0 190, q_up m 188 17 0 195, 0)) (hc : i_mf n (q_up m 188 17 0) v z0 m') {x y : Int} (ho : g_own x y) : q_Ev yX12_canPay cX12_canPay 4 (some .boolean) 2 0 0 [(2, 188), (0, x), (0, y)] (q_sh0, q_rb b, m') (qK (q_rb b) (fun r m2 => m2 = m' ∧ ((r = 1 ∧ g_payAt n m x y v) ∨ (r = 0 ∧ ¬ g_payAt n m x y v)))) := by
  have t1 := h.1.1
  have f : q_fx x_G m m' := i_g0x.tr (i_mf_fx hc)
  have el : f_en n (m' 207) (i_f n m v).1 := fun j a0 a1 => by have := (hc.2.2.2.2.1.1 j a0 a1).1; rw [i_g0f] at this; exact this
  have lim := (ok.it v).2
  refine (sp_canPay n hc.1.1 t1 (fun j a0 a1 => ?_) ho.1 ho.2.1).post ?_
  · have z := lim j a0 a1
    rw [x_G.row f (c := 189) (by decide), el j a0 a1]
    rw [show q_up m 188 17 0 189 = m 189 from i_g0rows (by decide)] at z
    have e : f_it n (q_up m 188 17 0 194) (m 189) (q_up m 188 17 0 191) v (q_up m 188 17 0 190, q_up m 188 17 0 195, 0) = i_f n m v := by unfold i_f; rw [i_g0rows (by decide), i_g0rows (by decide), i_g0rows (by decide), i_g0rows (by decide)]
    rw [e] at z
    exact ⟨z.2.2.2.2.2.2.2.1, z.2.2.2.2.2.2.2.2, z.2.2.1⟩
  · rintro r m2 ⟨rfl, hh⟩
    rw [x_G.row f (c := 192) (by decide), x_G.row f (c := 189) (by decide), x_G.row f (c := 197) (by decide), g_pay_en (fun _ _ _ => rfl) (fun _ _ _ => rfl) el] at hh
    exact ⟨rfl, hh⟩
theorem i_cf_rc {n : Nat} {m m' : qm} {v : Nat} (hc : i_cf n m v m') : i_rc m m' none := ⟨hc.2.2.2.2.2 0 (by decide) 16, fun i => hc.2.2.2.2.2 169 (by decide) i⟩
theorem cl_soonest {k n : Nat} {b : Int} {m : qm} (h : i_B k n m) (x y : Int) : q_Ev yX11_soonest cX11_soonest 4 (some .int) 3 0 0 [(2, 0), (0, x), (0, y)] (q_sh0, q_rb b, m) (qK (q_rb b) (fun r m1 => r = a_soonest n m x y ∧ q_fx x_F m m1 ∧ i_rc m m1 none)) := by
  have hB := h
  obtain ⟨t, p, a⟩ := h
  refine q_enter (by decide +kernel) (by simp) (Nat.le_of_ble_eq_true rfl) ?_
  refine bkX11_soonest_0 (fun _ => sp_start q_st5) (fun ho r3 m3 h3 _ => ?_) (fun ho => ⟨?_, q_fx.rf, rfl, fun _ => rfl⟩)
  · obtain ⟨c0, ok⟩ := i_cf0 t p a h3
    refine q_for' (A := fun i (_ : Unit) m' => q_At yX11_soonest cX11_soonest 4 (some .int) 3 0 0 _ 23 [(2, 0), (0, x), (0, y), (0, i)] [] (q_sh0, q_rb b, m')) (fun i _ m' => ∃ w f : Nat, i = w ∧ w + f = 201 ∧ i_cf n m w m' ∧ a_soonest n m x y = a_soonN n m x y f w) 200 ?_ ?_ 0 () m3 ⟨0, 201, rfl, rfl, c0, by unfold a_soonest; rw [if_pos ho]⟩
    · rintro i _ m' hi ⟨w, f, rfl, hw, hc, he⟩
      have hf0 : f = 0 := by omega
      subst hf0
      exact bkX11_soonest_23 (fun _ => ⟨he.symm, i_cf_fx hc, i_cf_rc hc⟩) (P2 := fun _ _ => True) (fun z => absurd z (by omega)) (P4 := fun _ _ _ _ => True) (fun z => absurd z (by omega)) (fun z => absurd z (by omega)) (fun z => absurd z (by omega)) (fun z => absurd z (by omega))
    · rintro i _ m' hi ⟨w, f, rfl, hw, hc, he⟩ ih
      have lo := i_cf_lost ok hc
      obtain ⟨f, rfl⟩ : ∃ g, f = g + 1 := ⟨f - 1, by omega⟩
      simp only [a_soonN] at he
      refine bkX11_soonest_23 (fun z => absurd z (by omega)) (fun _ => i_cpay hB ok hc ho) (P4 := fun _ m2 _ m4 => f_eq n (f_C m4) (f_b n (m2 29) (m2 2) (m2 28) (f_C m2)) ∧ f_wf n m4 ∧ q_fr [26, 27, 30, 31] m2 m4) ?_ (fun _ _ _ _ _ _ _ _ _ _ => q_in_of (by omega) (by omega)) ?_ ?_
      · rintro _ r2 m2 ⟨rfl, h2⟩ _ z
        exact sp_strike' n hc.1 (by omega)
      · rintro _ r2 m2 ⟨rfl, h2⟩ _ z r4 m4 h4 _
        have hp : ¬ g_payAt n m x y w := by rcases h2 with q | q; exact absurd q.1 (by omega); exact q.2
        rw [if_neg hp] at he
        exact ih () m4 ⟨w + 1, f, by omega, by omega, i_cf1 ok hc h4, he⟩
      · rintro _ r2 m2 ⟨rfl, h2⟩ _ z
        have hp : g_payAt n m x y w := by rcases h2 with q | q; exact q.2; exact absurd q.1 z
        rw [if_pos hp] at he
        exact ⟨he.symm, i_cf_fx hc, i_cf_rc hc⟩
  · unfold a_soonest; rw [if_neg ho]
theorem rf_soonest {k n : Nat} {b : Int} {m : qm} (h : i_B k n m) (x y : Int) : q_Ev yX12_soonest cX12_soonest 4 (some .int) 4 0 0 [(2, 188), (0, x), (0, y)] (q_sh0, q_rb b, m) (qK (q_rb b) (fun r m1 => r = a_soonest n m x y ∧ q_fx x_G m m1 ∧ i_rr m m1 none)) := by
  have hB := h
  have t1 := h.1.1
  obtain ⟨t, p, a⟩ := i_g0 h
  refine q_enter (by decide +kernel) (by simp) (Nat.le_of_ble_eq_true rfl) ?_
  refine bkX12_soonest_0 (fun _ => sp_begin n t.2.2.1 t1) (fun ho r3 m3 h3 _ => ?_) (fun ho => ⟨?_, i_g0x, i_g0r⟩)
  · have ho : g_own x y := by omega
    obtain ⟨c0, ok⟩ := i_mf0 t p a h3
    refine q_for' (A := fun i (_ : Unit) m' => q_At yX12_soonest cX12_soonest 4 (some .int) 4 0 0 _ 21 [(2, 188), (0, x), (0, y), (0, i)] [] (q_sh0, q_rb b, m')) (fun i _ m' => ∃ (w f : Nat) (z0 : Int), i = w ∧ w + f = 201 ∧ i_mf n (q_up m 188 17 0) w z0 m' ∧ a_soonest n m x y = a_soonN n m x y f w) 200 ?_ ?_ 0 () m3 ⟨0, 201, 0, rfl, rfl, c0, by unfold a_soonest; rw [if_pos ho]⟩
    · rintro i _ m' hi ⟨w, f, z0, rfl, hw, hc, he⟩
      have hf0 : f = 0 := by omega
      subst hf0
      exact bkX12_soonest_21 (fun _ => ⟨he.symm, i_g0x.tr (i_mf_fx hc), i_mf_r hc⟩) (P2 := fun _ _ => True) (fun z => absurd z (by omega)) (P4 := fun _ _ _ _ => True) (fun z => absurd z (by omega)) (fun z => absurd z (by omega)) (fun z => absurd z (by omega)) (fun z => absurd z (by omega))
    · rintro i _ m' hi ⟨w, f, z0, rfl, hw, hc, he⟩ ih
      obtain ⟨f, rfl⟩ : ∃ g, f = g + 1 := ⟨f - 1, by omega⟩
      simp only [a_soonN] at he
      refine bkX12_soonest_21 (fun z => absurd z (by omega)) (fun _ => i_mpay hB ok hc ho) (P4 := fun _ m2 r m4 => (∀ x, f_eq n (f_M m4 (x + r)) (f_b n (m2 194) (m2 189) (m2 209) (f_M m2 x))) ∧ 0 ≤ r ∧ r ≤ 81 ∧ f_mok n m4 ∧ q_fx f_X m2 m4) ?_ (fun _ _ _ _ _ _ _ _ _ _ => q_in_of (by omega) (by omega)) ?_ ?_
      · rintro _ r2 m2 ⟨rfl, h2⟩ _ z
        exact sp_goOn' n hc.1
      · rintro _ r2 m2 ⟨rfl, h2⟩ _ z r4 m4 h4 _
        have hp : ¬ g_payAt n m x y w := by rcases h2 with q | q; exact absurd q.1 (by omega); exact q.2
        rw [if_neg hp] at he
        exact ih () m4 ⟨w + 1, f, _, by omega, by omega, i_mf1 ok hc h4, he⟩
      · rintro _ r2 m2 ⟨rfl, h2⟩ _ z
        have hp : g_payAt n m x y w := by rcases h2 with q | q; exact q.2; exact absurd q.1 z
        rw [if_pos hp] at he
        exact ⟨he.symm, i_g0x.tr (i_mf_fx hc), i_mf_r hc⟩
  · unfold a_soonest; rw [if_neg (by omega)]
theorem op_soonest {LW : qm → Prop} (hL : i_Lf LW) {k : Nat} {b : Int} {m : qm} (I : i_I LW k m) (x y : Int) :
    q_Ev yX11_soonest cX11_soonest 4 (some .int) 3 0 0 [(2, 0), (0, x), (0, y)] (q_sh0, q_rb b, m) (qK (q_rb b) (fun r m1 => q_Ev yX12_soonest cX12_soonest 4 (some .int) 4 0 0 [(2, 188), (0, x), (0, y)] (q_sh0, q_rb b, m1) (i_O LW (k + 1) r))) := by
  have I2 := I
  obtain ⟨n, t, p, a, x', r, s, u, kk, l⟩ := I2
  refine i_join hL I (fun l z => by cases z) (cl_soonest ⟨t, p, a⟩ x y) (fun m1 f1 => (rf_soonest (i_B.fr (show i_B k n m from ⟨t, p, a⟩) f1 x_F_B) x y).post (fun r m2 z => ⟨z.1.trans ?_, z.2⟩)) x_F_A x_G_A x_F_c x_G_c
  unfold a_soonest; rw [a_soonN_fr f1]
theorem cl_latest {k n : Nat} {b : Int} {m : qm} (h : i_B k n m) (x y : Int) : q_Ev yX11_latest cX11_latest 5 (some .int) 3 0 0 [(2, 0), (0, x), (0, y)] (q_sh0, q_rb b, m) (qK (q_rb b) (fun r m1 => r = a_latest n m x y ∧ q_fx x_F m m1 ∧ i_rc m m1 none)) := by
  have hB := h
  obtain ⟨t, p, a⟩ := h
  refine q_enter (by decide +kernel) (by simp) (Nat.le_of_ble_eq_true rfl) ?_
  refine bkX11_latest_0 (fun _ => sp_start q_st5) (fun ho r3 m3 h3 _ => ?_) (fun ho => ⟨?_, q_fx.rf, rfl, fun _ => rfl⟩)
  · obtain ⟨c0, ok⟩ := i_cf0 t p a h3
    refine q_for' (A := fun i (l : Int) m' => q_At yX11_latest cX11_latest 5 (some .int) 3 0 0 _ 27 [(2, 0), (0, x), (0, y), (0, l), (0, i)] [] (q_sh0, q_rb b, m')) (fun i l m' => ∃ w : Nat, i = w ∧ w ≤ 201 ∧ i_cf n m w m' ∧ l = a_lastN n m x y w) 200 ?_ ?_ 0 (-2) m3 ⟨0, rfl, by omega, c0, rfl⟩
    · rintro i l m' hi ⟨w, rfl, hw, hc, rfl⟩
      have hw1 : w = 201 := by omega
      subst hw1
      exact bkX11_latest_27 (fun _ => ⟨by unfold a_latest; rw [if_pos ho], i_cf_fx hc, i_cf_rc hc⟩) (P2 := fun _ _ => True) (fun z => absurd z (by omega)) (P4 := fun _ _ _ _ => True) (fun z => absurd z (by omega)) (fun z => absurd z (by omega)) (fun z => absurd z (by omega)) (P5 := fun _ _ _ _ => True) (fun z => absurd z (by omega)) (fun z => absurd z (by omega)) (fun z => absurd z (by omega))
    · rintro i l m' hi ⟨w, rfl, hw, hc, rfl⟩ ih
      have lo := i_cf_lost ok hc
      refine bkX11_latest_27 (fun z => absurd z (by omega)) (fun _ => i_cpay hB ok hc ho) (P4 := fun _ m2 _ m4 => f_eq n (f_C m4) (f_b n (m2 29) (m2 2) (m2 28) (f_C m2)) ∧ f_wf n m4 ∧ q_fr [26, 27, 30, 31] m2 m4) ?_ (fun _ _ _ _ _ _ _ _ _ _ => q_in_of (by omega) (by omega)) ?_ (P5 := fun _ m2 _ m4 => f_eq n (f_C m4) (f_b n (m2 29) (m2 2) (m2 28) (f_C m2)) ∧ f_wf n m4 ∧ q_fr [26, 27, 30, 31] m2 m4) ?_ (fun _ _ _ _ _ _ _ _ _ _ => q_in_of (by omega) (by omega)) ?_
      · rintro _ r2 m2 ⟨rfl, h2⟩ _ z
        exact sp_strike' n hc.1 (by omega)
      · rintro _ r2 m2 ⟨rfl, h2⟩ _ z r4 m4 h4 _
        have hp : ¬ g_payAt n m x y w := by rcases h2 with q | q; exact absurd q.1 (by omega); exact q.2
        exact ih _ m4 ⟨w + 1, by omega, by omega, i_cf1 ok hc h4, by simp only [a_lastN]; rw [if_neg hp]⟩
      · rintro _ r2 m2 ⟨rfl, h2⟩ _ z
        exact sp_strike' n hc.1 (by omega)
      · rintro _ r2 m2 ⟨rfl, h2⟩ _ z r4 m4 h4 _
        have hp : g_payAt n m x y w := by rcases h2 with q | q; exact q.2; exact absurd q.1 z
        exact ih _ m4 ⟨w + 1, by omega, by omega, i_cf1 ok hc h4, by simp only [a_lastN]; rw [if_pos hp]⟩
  · unfold a_latest; rw [if_neg ho]
theorem rf_latest {k n : Nat} {b : Int} {m : qm} (h : i_B k n m) (x y : Int) : q_Ev yX12_latest cX12_latest 5 (some .int) 4 0 0 [(2, 188), (0, x), (0, y)] (q_sh0, q_rb b, m) (qK (q_rb b) (fun r m1 => r = a_latest n m x y ∧ q_fx x_G m m1 ∧ i_rr m m1 none)) := by
  have hB := h
  have t1 := h.1.1
  obtain ⟨t, p, a⟩ := i_g0 h
  refine q_enter (by decide +kernel) (by simp) (Nat.le_of_ble_eq_true rfl) ?_
  refine bkX12_latest_0 (fun _ => sp_begin n t.2.2.1 t1) (fun ho r3 m3 h3 _ => ?_) (fun ho => ⟨?_, i_g0x, i_g0r⟩)
  · have ho : g_own x y := by omega
    obtain ⟨c0, ok⟩ := i_mf0 t p a h3
    refine q_for' (A := fun i (l : Int) m' => q_At yX12_latest cX12_latest 5 (some .int) 4 0 0 _ 25 [(2, 188), (0, x), (0, y), (0, l), (0, i)] [] (q_sh0, q_rb b, m')) (fun i l m' => ∃ (w : Nat) (z0 : Int), i = w ∧ w ≤ 201 ∧ i_mf n (q_up m 188 17 0) w z0 m' ∧ l = a_lastN n m x y w) 200 ?_ ?_ 0 (-2) m3 ⟨0, 0, rfl, by omega, c0, rfl⟩
    · rintro i l m' hi ⟨w, z0, rfl, hw, hc, rfl⟩
      have hw1 : w = 201 := by omega
      subst hw1
      exact bkX12_latest_25 (fun _ => ⟨by unfold a_latest; rw [if_pos ho], i_g0x.tr (i_mf_fx hc), i_mf_r hc⟩) (P2 := fun _ _ => True) (fun z => absurd z (by omega)) (P4 := fun _ _ _ _ => True) (fun z => absurd z (by omega)) (fun z => absurd z (by omega)) (fun z => absurd z (by omega)) (P5 := fun _ _ _ _ => True) (fun z => absurd z (by omega)) (fun z => absurd z (by omega)) (fun z => absurd z (by omega))
    · rintro i l m' hi ⟨w, z0, rfl, hw, hc, rfl⟩ ih
      refine bkX12_latest_25 (fun z => absurd z (by omega)) (fun _ => i_mpay hB ok hc ho) (P4 := fun _ m2 r m4 => (∀ x, f_eq n (f_M m4 (x + r)) (f_b n (m2 194) (m2 189) (m2 209) (f_M m2 x))) ∧ 0 ≤ r ∧ r ≤ 81 ∧ f_mok n m4 ∧ q_fx f_X m2 m4) ?_ (fun _ _ _ _ _ _ _ _ _ _ => q_in_of (by omega) (by omega)) ?_ (P5 := fun _ m2 r m4 => (∀ x, f_eq n (f_M m4 (x + r)) (f_b n (m2 194) (m2 189) (m2 209) (f_M m2 x))) ∧ 0 ≤ r ∧ r ≤ 81 ∧ f_mok n m4 ∧ q_fx f_X m2 m4) ?_ (fun _ _ _ _ _ _ _ _ _ _ => q_in_of (by omega) (by omega)) ?_
      · rintro _ r2 m2 ⟨rfl, h2⟩ _ z
        exact sp_goOn' n hc.1
      · rintro _ r2 m2 ⟨rfl, h2⟩ _ z r4 m4 h4 _
        have hp : ¬ g_payAt n m x y w := by rcases h2 with q | q; exact absurd q.1 (by omega); exact q.2
        exact ih _ m4 ⟨w + 1, _, by omega, by omega, i_mf1 ok hc h4, by simp only [a_lastN]; rw [if_neg hp]⟩
      · rintro _ r2 m2 ⟨rfl, h2⟩ _ z
        exact sp_goOn' n hc.1
      · rintro _ r2 m2 ⟨rfl, h2⟩ _ z r4 m4 h4 _
        have hp : g_payAt n m x y w := by rcases h2 with q | q; exact q.2; exact absurd q.1 z
        exact ih _ m4 ⟨w + 1, _, by omega, by omega, i_mf1 ok hc h4, by simp only [a_lastN]; rw [if_pos hp]⟩
  · unfold a_latest; rw [if_neg (by omega)]
theorem op_latest {LW : qm → Prop} (hL : i_Lf LW) {k : Nat} {b : Int} {m : qm} (I : i_I LW k m) (x y : Int) :
    q_Ev yX11_latest cX11_latest 5 (some .int) 3 0 0 [(2, 0), (0, x), (0, y)] (q_sh0, q_rb b, m) (qK (q_rb b) (fun r m1 => q_Ev yX12_latest cX12_latest 5 (some .int) 4 0 0 [(2, 188), (0, x), (0, y)] (q_sh0, q_rb b, m1) (i_O LW (k + 1) r))) := by
  have I2 := I
  obtain ⟨n, t, p, a, x', r, s, u, kk, l⟩ := I2
  refine i_join hL I (fun l z => by cases z) (cl_latest ⟨t, p, a⟩ x y) (fun m1 f1 => (rf_latest (i_B.fr (show i_B k n m from ⟨t, p, a⟩) f1 x_F_B) x y).post (fun r m2 z => ⟨z.1.trans ?_, z.2⟩)) x_F_A x_G_A x_F_c x_G_c
  unfold a_latest; rw [a_lastN_fr f1]
