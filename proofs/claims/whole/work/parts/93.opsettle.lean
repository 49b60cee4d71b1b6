def a_pr (D M : Int → Int) (p : Int → Int → Prop) : Prop := (∀ x y, 0 ≤ x → x < 6 → 0 ≤ y → y < 6 → x ≠ y → (p x y → M (6 * x + y) = a_all D x y) ∧ (¬ p x y → M (6 * x + y) = D (6 * x + y))) ∧ ∀ x, 0 ≤ x → x < 6 → M (7 * x) = 0
theorem a_pr.v {D M : Int → Int} {p : Int → Int → Prop} (h : a_pr D M p) (v : a_DV D) : a_DV M := by
  refine ⟨fun d a b => ?_, h.2⟩
  by_cases e : d / 6 = d % 6
  · have := h.2 (d / 6) (by omega) (by omega)
    rw [show 7 * (d / 6) = d by omega] at this
    rw [this]; omega
  · have g := h.1 (d / 6) (d % 6) (by omega) (by omega) (by omega) (by omega) e
    rw [show 6 * (d / 6) + d % 6 = d by omega] at g
    have v1 := v.1 d a b
    have v2 := v.1 (6 * (d % 6) + d / 6) (by omega) (by omega)
    by_cases hp : p (d / 6) (d % 6)
    · rw [g.1 hp]; unfold a_all; rw [show 6 * (d / 6) + d % 6 = d by omega]; omega
    · rw [g.2 hp]; exact v1
theorem a_pr.mo {D M : Int → Int} {p q : Int → Int → Prop} (h : a_pr D M p) (e : ∀ x y, 0 ≤ x → x < 6 → 0 ≤ y → y < 6 → x ≠ y → (q x y ↔ p x y)) : a_pr D M q :=
  ⟨fun x y a b c d n => ⟨fun z => (h.1 x y a b c d n).1 ((e x y a b c d n).mp z), fun z => (h.1 x y a b c d n).2 (fun w => z ((e x y a b c d n).mpr w))⟩, h.2⟩
theorem a_pr.off {D M N : Int → Int} {p q : Int → Int → Prop} (h : a_pr D M p) {i j : Int} (hi : 0 ≤ i ∧ i < 6) (hj : 0 ≤ j ∧ j < 6) (hne : i ≠ j) (h1 : ¬ p i j) (h2 : ¬ p j i) (hN : a_e36 N (a_off M i j)) (e : ∀ x y, 0 ≤ x → x < 6 → 0 ≤ y → y < 6 → x ≠ y → (q x y ↔ (p x y ∨ (x = i ∧ y = j) ∨ (x = j ∧ y = i)))) : a_pr D N q := by
  have m1 := (h.1 i j hi.1 hi.2 hj.1 hj.2 hne).2 h1
  have m2 := (h.1 j i hj.1 hj.2 hi.1 hi.2 (fun z => hne z.symm)).2 h2
  have hv : ∀ x y, 0 ≤ x → x < 6 → 0 ≤ y → y < 6 → N (6 * x + y) = if (x = j ∧ y = i) then M (6 * j + i) - min (M (6 * i + j)) (M (6 * j + i)) else if (x = i ∧ y = j) then M (6 * i + j) - min (M (6 * i + j)) (M (6 * j + i)) else M (6 * x + y) := fun x y a b c d => by
    rw [hN _ (by omega) (by omega)]
    unfold a_off a_up
    by_cases c1 : x = j ∧ y = i
    · rw [if_pos c1, if_pos (by omega)]
    · rw [if_neg c1, if_neg (by omega)]
      by_cases c2 : x = i ∧ y = j
      · rw [if_pos c2, if_pos (by omega)]
      · rw [if_neg c2, if_neg (by omega)]
  refine ⟨fun x y a b c d n => ?_, fun x a b => ?_⟩
  · have g := h.1 x y a b c d n
    have e2 := e x y a b c d n
    rw [hv x y a b c d, e2]
    by_cases c1 : x = j ∧ y = i
    · rw [if_pos c1]
      obtain ⟨rfl, rfl⟩ := c1
      refine ⟨fun _ => ?_, fun z => absurd (Or.inr (Or.inr ⟨rfl, rfl⟩)) z⟩
      unfold a_all
      rw [m1, m2]; omega
    · rw [if_neg c1]
      by_cases c2 : x = i ∧ y = j
      · rw [if_pos c2]
        obtain ⟨rfl, rfl⟩ := c2
        refine ⟨fun _ => ?_, fun z => absurd (Or.inr (Or.inl ⟨rfl, rfl⟩)) z⟩
        unfold a_all
        rw [m1, m2]
      · rw [if_neg c2]
        refine ⟨fun z => g.1 ?_, fun z => g.2 (fun w => z (Or.inl w))⟩
        rcases z with z | z | z
        · exact z
        · exact absurd z c2
        · exact absurd z c1
  · have := hv x x a b a b
    rw [show 7 * x = 6 * x + x by omega, this, if_neg (by omega), if_neg (by omega), show 6 * x + x = 7 * x by omega]
    exact h.2 x a b
def a_D0 (D : Int → Int) : Int → Int := fun d => a_all D (d / 6) (d % 6)
theorem a_pr.all {D M : Int → Int} {p : Int → Int → Prop} (h : a_pr D M p) (hp : ∀ x y, 0 ≤ x → x < 6 → 0 ≤ y → y < 6 → p x y) : a_e36 M (a_D0 D) := fun d a b => by
  show M d = a_all D (d / 6) (d % 6)
  by_cases e : d / 6 = d % 6
  · have := h.2 (d / 6) (by omega) (by omega)
    rw [show 7 * (d / 6) = d by omega] at this
    rw [this]; unfold a_all; rw [e]; omega
  · have := (h.1 (d / 6) (d % 6) (by omega) (by omega) (by omega) (by omega) e).1 (hp _ _ (by omega) (by omega) (by omega) (by omega))
    rw [show 6 * (d / 6) + d % 6 = d by omega] at this
    exact this
theorem a_DV.en {D E : Int → Int} (h : a_DV D) (e : a_e36 D E) : a_DV E := ⟨fun d a b => by rw [← e d a b]; exact h.1 d a b, fun x a b => by rw [← e _ (by omega) (by omega)]; exact h.2 x a b⟩
theorem a_D0_v {D : Int → Int} (v : a_DV D) : a_DV (a_D0 D) := by
  have h : a_pr D D (fun _ _ => False) := ⟨fun x y a b c d n => ⟨fun z => absurd z id, fun _ => rfl⟩, v.2⟩
  refine ⟨fun d a b => ?_, fun x a b => ?_⟩
  · have v1 := v.1 d a b
    have v2 := v.1 (6 * (d % 6) + d / 6) (by omega) (by omega)
    unfold a_D0 a_all
    rw [show 6 * (d / 6) + d % 6 = d by omega]; omega
  · unfold a_D0 a_all
    rw [show 7 * x / 6 = x by omega, show 7 * x % 6 = x by omega]
    omega
theorem a_e36.tr {f g h : Int → Int} (a : a_e36 f g) (b : a_e36 g h) : a_e36 f h := fun d x y => (a d x y).trans (b d x y)
theorem a_off_en {D E : Int → Int} (e : a_e36 D E) {x y : Int} (hx : 0 ≤ x ∧ x < 6) (hy : 0 ≤ y ∧ y < 6) : a_e36 (a_off D x y) (a_off E x y) := fun d a b => by
  unfold a_off a_up
  rw [e (6 * x + y) (by omega) (by omega), e (6 * y + x) (by omega) (by omega), e d a b]
theorem a_pass_en {D E : Int → Int} (e : a_e36 D E) {x y z : Int} (hx : 0 ≤ x ∧ x < 6) (hy : 0 ≤ y ∧ y < 6) (hz : 0 ≤ z ∧ z < 6) : a_e36 (a_pass D x y z) (a_pass E x y z) := by
  unfold a_pass
  refine a_off_en (fun d a b => ?_) hx hz
  unfold a_up
  rw [e (6 * x + y) (by omega) (by omega), e (6 * y + z) (by omega) (by omega), e (6 * x + z) (by omega) (by omega), e d a b]
theorem op_settle {LW : qm → Prop} (hL : i_Lf LW) {k : Nat} {b : Int} {m : qm} (I : i_I LW k m) :
    q_Ev yX11_settle cX11_settle 4 (some .int) 4 0 0 [(2, 0)] (q_sh0, q_rb b, m) (qK (q_rb b) (fun r m1 => q_Ev yX12_settle cX12_settle 4 (some .int) 3 0 0 [(2, 188)] (q_sh0, q_rb b, m1) (i_O LW (k + 1) r))) := by
  have I2 := I
  obtain ⟨n, t, p, a, x, rr, s, u, kk, l⟩ := I2
  obtain ⟨W1, W2, W3⟩ := a_N_of a
  obtain ⟨P1, P2, P3⟩ := a_U_of u
  generalize hA : a_of m = A at W1 W2 W3
  generalize hD : A.2.2.1 = D
  have vD : a_DV D := by rw [← hD]; exact ⟨W3.2.2.1, W3.2.2.2.1⟩
  have eC : a_e36 (m 12) D := by rw [← hD]; exact W1.2.1
  have eM : a_e36 (m 197) D := by rw [← hD]; exact W2.2.2.1
  have v0 := a_D0_v vD
  have s0 := g_s_in (f := a_D0 D) (A := 999) (n := 36) (by decide) v0.1
  obtain ⟨N, E, hN, E0, EV, ES, EN⟩ := a_rows 35964 (a_D0 D) v0 (by omega)
  have sD := g_s_in (f := D) (A := 999) (n := 36) (by decide) vD.1
  have sE := g_s_in (f := E N) (A := 999) (n := 36) (by decide) (EV N (Nat.le_refl N)).1
  generalize hR : g_s D 36 = R0 at sD
  generalize hR1 : g_s (E N) 36 = R1 at sE
  refine q_Ev.post (P := fun r m1 => r = (N : Int) ∧ a_e36 (m1 12) (E N) ∧ m1 33 2 = 0 ∧ q_fx (fun c i => c = 12 ∨ (c = 33 ∧ i = 2) ∨ (c = 0 ∧ i = 16) ∨ c = 169) m m1 ∧ i_rc m m1 (some [R0, R1])) ?_ ?_
  · refine q_enter (by decide +kernel) (by simp) (Nat.le_of_ble_eq_true rfl) ?_
    refine bkX11_settle_0 (P1 := fun r m1 => m1 = m ∧ r = R0) ?_ ?_
    · have := sp_owedByAll (b := b) (mem := m) q_st5 (fun d a b => by rw [show m (5 + 7) d = _ from eC d a b]; exact vD.1 d a b)
      rw [show g_s (m (5 + 7)) 36 = R0 from (g_s_en (fun d a b => eC d a b)).trans hR] at this
      exact this
    · rintro r1 m1 ⟨rfl, rfl⟩ _
      have fin : ∀ m0 : qm, a_e36 (m0 12) (E 0) → q_fx (fun c i => c = 12) m1 m0 → q_At yX11_settle cX11_settle 4 (some .int) 4 0 0 (qK (q_rb b) (fun r m' => r = (N : Int) ∧ a_e36 (m' 12) (E N) ∧ m' 33 2 = 0 ∧ q_fx (fun c i => c = 12 ∨ (c = 33 ∧ i = 2) ∨ (c = 0 ∧ i = 16) ∨ c = 169) m1 m' ∧ i_rc m1 m' (some [r1, R1]))) 49 [(2, 0), (0, r1), (0, 0), (4, 0)] [] (q_sh0, q_rb b, m0) := by
        intro m0 e0 f0
        refine q_for (A := fun i m' => q_At yX11_settle cX11_settle 4 (some .int) 4 0 0 _ 49 [(2, 0), (0, r1), (0, i), (4, 0)] [] (q_sh0, q_rb b, m')) (fun i m' => ∃ y : Nat, i = y ∧ y ≤ N ∧ a_e36 (m' 12) (E y) ∧ q_fx (fun c i => c = 12) m1 m') N ?_ ?_ 0 m0 ⟨0, rfl, by omega, e0, f0⟩
        · rintro i m' hi ⟨y, rfl, hy, ey, fy⟩
          have : y = N := by omega
          subst this
          have h1 := i_rw.tell (v := r1) (i_rw.clear (m := q_up m' 33 2 0) (q_fx.rf (X := x_F)))
          rw [show (q_up (q_up m' 33 2 0) 0 16 0) 0 16 = 0 from q_up_s] at h1
          have F : q_fx (fun c i => c = 12 ∨ (c = 33 ∧ i = 2) ∨ (c = 0 ∧ i = 16) ∨ c = 169) m1 (q_up (q_up (q_up (q_up m' 33 2 0) 0 16 0) 169 0 r1) 0 16 (0 + 1)) := ((((fy.mono (fun c i z => Or.inl z)).up (by omega)).up (by omega)).up (by omega)).up (by omega)
          have e12 : ∀ d, (q_up (q_up (q_up (q_up m' 33 2 0) 0 16 0) 169 0 r1) 0 16 (0 + 1)) 12 d = m' 12 d := fun d => by rw [q_up_c (by decide), q_up_c (by decide), q_up_c (by decide), q_up_c (by decide)]
          have e33 : (q_up (q_up (q_up (q_up m' 33 2 0) 0 16 0) 169 0 r1) 0 16 (0 + 1)) 33 2 = 0 := by rw [q_up_c (by decide), q_up_c (by decide), q_up_c (by decide), q_up_s]
          have od := sp_owedByAll (b := b) (mem := q_up (q_up (q_up (q_up m' 33 2 0) 0 16 0) 169 0 r1) 0 16 (0 + 1)) q_st5 (fun d a b => by rw [show (5 : Int) + 7 = 12 from rfl, e12, ey d a b]; exact (EV y (Nat.le_refl y)).1 d a b)
          rw [show g_s ((q_up (q_up (q_up (q_up m' 33 2 0) 0 16 0) 169 0 r1) 0 16 (0 + 1)) (5 + 7)) 36 = R1 from (g_s_en (fun d a b => (e12 d).trans (ey d a b))).trans hR1] at od
          refine bkX11_settle_49 (P4 := fun _ _ => True) (P6 := fun r m2 => (r = 0 ∧ m2 = m' ∧ ∀ x y' z, ¬ a_tr (E y) x y' z) ∨ (r = 1 ∧ ∃ x y' z, a_fs (E y) x y' z ∧ a_e36 (m2 12) (a_pass (E y) x y' z) ∧ q_fx (fun c _ => c = 12) m' m2)) (P10 := fun _ _ r m4 => m4 = q_up (q_up (q_up (q_up m' 33 2 0) 0 16 0) 169 0 r1) 0 16 (0 + 1) ∧ r = R1) (fun z => absurd z (by omega)) (fun z => absurd z (by omega)) (fun z => absurd z (by omega)) (fun z => absurd z (by omega)) (fun _ => sp_settleFirst ey (EV y (Nat.le_refl y))) (fun _ _ _ _ _ _ => by decide) ?_ ?_ ?_ (fun _ _ _ _ _ _ => q_in_of (by omega) (by omega)) ?_
          · rintro _ r6 m6 h6 _ z6
            rcases h6 with h6 | h6
            · rw [h6.2.1]; exact od
            · omega
          · rintro _ r6 m6 - _ _ r10 m10 ⟨rfl, rfl⟩ _
            exact h1.len (by simp)
          · rintro _ r6 m6 - _ _ r10 m10 ⟨rfl, rfl⟩ _
            have h2 := i_rw.tell (v := r10) h1
            refine ⟨rfl, fun d a b => ?_, ?_, (F.up (by omega)).up (by omega), h2.2.1, h2.2.2⟩
            · rw [q_up_c (by decide), q_up_c (by decide), e12]; exact ey d a b
            · rw [q_up_c (by decide), q_up_c (by decide)]; exact e33
          · rintro _ r6 m6 h6 _ z6
            rcases h6 with h6 | h6
            · exact absurd h6.1 z6
            · obtain ⟨-, x, y', z, f, -⟩ := h6
              exact absurd f.1 (EN x y' z)
        · rintro i m' hi ⟨y, rfl, hy, ey, fy⟩ ih
          obtain ⟨x0, y0, z0, f0', es⟩ := ES y (by omega)
          have no : ∀ r6 : Int, ∀ m6 : qm, ((r6 = 0 ∧ m6 = m' ∧ ∀ x y' z, ¬ a_tr (E y) x y' z) ∨ (r6 = 1 ∧ ∃ x y' z, a_fs (E y) x y' z ∧ a_e36 (m6 12) (a_pass (E y) x y' z) ∧ q_fx (fun c _ => c = 12) m' m6)) → r6 = 1 ∧ a_e36 (m6 12) (E (y + 1)) ∧ q_fx (fun c _ => c = 12) m' m6 := fun r6 m6 h6 => by
            rcases h6 with h6 | h6
            · exact absurd f0'.1 (h6.2.2 x0 y0 z0)
            · obtain ⟨h61, x, y', z, f, h7, h8⟩ := h6
              obtain ⟨rfl, rfl, rfl⟩ := f.un f0'
              exact ⟨h61, by rw [es]; exact h7, h8⟩
          refine bkX11_settle_49 (P4 := fun _ _ => True) (P6 := fun r m2 => (r = 0 ∧ m2 = m' ∧ ∀ x y' z, ¬ a_tr (E y) x y' z) ∨ (r = 1 ∧ ∃ x y' z, a_fs (E y) x y' z ∧ a_e36 (m2 12) (a_pass (E y) x y' z) ∧ q_fx (fun c _ => c = 12) m' m2)) (P10 := fun _ _ r m4 => True) (fun z => absurd z (by omega)) (fun z => absurd z (by omega)) (fun z => absurd z (by omega)) (fun z => absurd z (by omega)) (fun _ => sp_settleFirst ey (EV y (by omega))) (fun _ _ _ _ _ _ => by decide) ?_ ?_ ?_ (fun _ _ _ _ _ _ => q_in_of (by omega) (by omega)) ?_
          · rintro _ r6 m6 h6 _ z6
            have := (no r6 m6 h6).1
            omega
          · rintro _ r6 m6 h6 _ z6
            have := (no r6 m6 h6).1
            omega
          · rintro _ r6 m6 h6 _ z6
            have := (no r6 m6 h6).1
            omega
          · rintro _ r6 m6 h6 _ z6
            obtain ⟨-, h7, h8⟩ := no r6 m6 h6
            exact ih m6 ⟨y + 1, by omega, by omega, h7, fy.tr h8⟩
      refine q_for (A := fun i m' => q_At yX11_settle cX11_settle 4 (some .int) 4 0 0 _ 10 [(2, 0), (0, r1), (0, i), (4, 0)] [] (q_sh0, q_rb b, m')) (fun i m' => 0 ≤ i ∧ i ≤ 6 ∧ a_pr D (m' 12) (fun x y => min x y < i) ∧ q_fx (fun c i => c = 12) m1 m') 6 ?_ ?_ 0 m1 ⟨by omega, by omega, ⟨fun x y a b c d n => ⟨fun z => absurd z (by omega), fun _ => eC _ (by omega) (by omega)⟩, fun x a b => by rw [eC _ (by omega) (by omega)]; exact vD.2 x a b⟩, q_fx.rf⟩
      · rintro i m' hi ⟨i0, i1, pr, f⟩
        refine bkX11_settle_10 (fun _ => fin m' ?_ f) (fun z => absurd z (by omega)) (fun z => absurd z (by omega))
        rw [E0]
        exact pr.all (fun x y a b c d => by omega)
      · rintro i m' hi ⟨i0, i1, pr, f⟩ ih
        refine bkX11_settle_10 (fun z => absurd z (by omega)) (fun _ => q_in_of (by omega) (by omega)) (fun _ => ?_)
        refine q_for (A := fun j m' => q_At yX11_settle cX11_settle 4 (some .int) 4 0 0 _ 20 [(2, 0), (0, r1), (0, i), (0, j)] [] (q_sh0, q_rb b, m')) (fun j m2 => i < j ∧ j ≤ 6 ∧ a_pr D (m2 12) (fun x y => min x y < i ∨ (min x y = i ∧ max x y < j)) ∧ q_fx (fun c i => c = 12) m1 m2) 6 ?_ ?_ (i + 1) m' ⟨by omega, by omega, pr.mo (fun x y a b c d n => by omega), f⟩
        · rintro j m2 hj ⟨j0, j1, pr2, f2⟩
          exact bkX11_settle_20 (P2 := fun _ _ => True) (fun _ => q_in_of (by omega) (by omega)) (fun _ => ih m2 ⟨by omega, by omega, pr2.mo (fun x y a b c d n => by omega), f2⟩) (fun z => absurd z (by omega)) (fun z => absurd z (by omega)) (fun z => absurd z (by omega))
        · rintro j m2 hj ⟨j0, j1, pr2, f2⟩ ih2
          refine bkX11_settle_20 (fun z => absurd z (by omega)) (fun z => absurd z (by omega)) (fun _ => sp_setOffC (D := m2 12) (fun _ _ _ => rfl) (pr2.v vD) ⟨i0, hi⟩ ⟨by omega, hj⟩ (by omega)) (fun _ _ _ _ _ => q_in_of (by omega) (by omega)) ?_
          rintro _ r3 m3 ⟨h3, f3⟩ _
          exact ih2 m3 ⟨by omega, by omega, pr2.off ⟨i0, hi⟩ ⟨by omega, hj⟩ (by omega) (by omega) (by omega) h3 (fun x y a b c d n => by omega), f2.tr f3⟩
  · rintro r1 m1 ⟨er, g1, g2, F1, g3⟩
    rw [er]
    have eM1 : a_e36 (m1 197) D := fun d a b => (F1 _ _ (by omega)).trans (eM d a b)
    refine i_O_of (b := b) (q_Ev.post (P := fun r m2 => r = (N : Int) ∧ a_e36 (m2 197) (E N) ∧ m2 188 30 = 0 ∧ q_fx (fun c i => c = 197 ∨ (c = 188 ∧ (i = 16 ∨ i = 17 ∨ i = 30)) ∨ c = 199) m1 m2 ∧ i_rr m1 m2 (some [R0, R1])) ?_ ?_)
    · refine q_enter (by decide +kernel) (by simp) (Nat.le_of_ble_eq_true rfl) ?_
      have g0 : q_fx (fun c i => c = 197 ∨ (c = 188 ∧ i = 17)) m1 (q_up m1 188 17 0) := q_fx.rf.up (Or.inr ⟨rfl, rfl⟩)
      have e0 : a_e36 ((q_up m1 188 17 0) 197) D := fun d a b => (q_up_c (by decide)).trans (eM1 d a b)
      refine bkX12_settle_0 (P1 := fun r m2 => m2 = q_up m1 188 17 0 ∧ r = R0) ?_ ?_
      · have := sp_allDebts (b := b) (mem := q_up m1 188 17 0) (fun d a b => by rw [e0 d a b]; exact vD.1 d a b)
        rw [show g_s ((q_up m1 188 17 0) 197) 36 = R0 from (g_s_en (fun d a b => e0 d a b)).trans hR] at this
        exact this
      · rintro r2 m2 ⟨em2, er2⟩ _
        rw [← em2] at g0 e0
        rw [er2]
        have fin : ∀ m0 : qm, a_e36 (m0 197) (E 0) → q_fx (fun c i => c = 197 ∨ (c = 188 ∧ i = 17)) m1 m0 → q_At yX12_settle cX12_settle 4 (some .int) 3 0 0 (qK (q_rb b) (fun r m2 => r = (N : Int) ∧ a_e36 (m2 197) (E N) ∧ m2 188 30 = 0 ∧ q_fx (fun c i => c = 197 ∨ (c = 188 ∧ (i = 16 ∨ i = 17 ∨ i = 30)) ∨ c = 199) m1 m2 ∧ i_rr m1 m2 (some [R0, R1]))) 45 [(2, 188), (0, R0), (0, 0), (4, 0)] [] (q_sh0, q_rb b, m0) := by
          intro m0 e0 f0
          refine q_for (A := fun i m' => q_At yX12_settle cX12_settle 4 (some .int) 3 0 0 _ 45 [(2, 188), (0, R0), (0, i), (4, 0)] [] (q_sh0, q_rb b, m')) (fun i m' => ∃ y : Nat, i = y ∧ y ≤ N ∧ a_e36 (m' 197) (E y) ∧ q_fx (fun c i => c = 197 ∨ (c = 188 ∧ i = 17)) m1 m') N ?_ ?_ 0 m0 ⟨0, rfl, by omega, e0, f0⟩
          · rintro i m' hi ⟨y, rfl, hy, ey, fy⟩
            have : y = N := by omega
            subst this
            have h1 := i_mw.tell (v := R0) (i_mw.clear (m := q_up m' 188 30 0) (q_fx.rf (X := x_G)))
            rw [show (q_up (q_up m' 188 30 0) 188 16 0) 188 16 = 0 from q_up_s] at h1
            have F : q_fx (fun c i => c = 197 ∨ (c = 188 ∧ (i = 16 ∨ i = 17 ∨ i = 30)) ∨ c = 199) m1 (q_up (q_up (q_up (q_up m' 188 30 0) 188 16 0) 199 0 R0) 188 16 (0 + 1)) := ((((fy.mono (fun c i z => by omega)).up (by omega)).up (by omega)).up (by omega)).up (by omega)
            have e12 : ∀ d, (q_up (q_up (q_up (q_up m' 188 30 0) 188 16 0) 199 0 R0) 188 16 (0 + 1)) 197 d = m' 197 d := fun d => by rw [q_up_c (by decide), q_up_c (by decide), q_up_c (by decide), q_up_c (by decide)]
            have e33 : (q_up (q_up (q_up (q_up m' 188 30 0) 188 16 0) 199 0 R0) 188 16 (0 + 1)) 188 30 = 0 := by rw [q_up_i (by decide), q_up_c (by decide), q_up_i (by decide), q_up_s]
            have od := sp_allDebts (b := b) (mem := q_up (q_up (q_up (q_up m' 188 30 0) 188 16 0) 199 0 R0) 188 16 (0 + 1)) (fun d a b => by rw [e12, ey d a b]; exact (EV y (Nat.le_refl y)).1 d a b)
            rw [show g_s ((q_up (q_up (q_up (q_up m' 188 30 0) 188 16 0) 199 0 R0) 188 16 (0 + 1)) 197) 36 = R1 from (g_s_en (fun d a b => (e12 d).trans (ey d a b))).trans hR1] at od
            refine bkX12_settle_45 (P1 := fun r m2 => (r = 0 ∧ m2 = m' ∧ ∀ x y' z, ¬ a_tr (E y) x y' z) ∨ (r = 1 ∧ ∃ x y' z, a_fs (E y) x y' z ∧ a_e36 (m2 197) (a_pass (E y) x y' z) ∧ q_fx (fun c _ => c = 197) m' m2)) (P4 := fun _ _ r m4 => m4 = q_up (q_up (q_up (q_up m' 188 30 0) 188 16 0) 199 0 R0) 188 16 (0 + 1) ∧ r = R1) (sp_settleOne ey (EV y (Nat.le_refl y))) (fun _ _ _ _ _ => by decide) ?_ ?_ ?_ (fun _ _ _ _ _ => q_in_of (by omega) (by omega)) ?_
            · rintro r6 m6 h6 _ z6
              rcases h6 with h6 | h6
              · rw [h6.2.1]; exact od
              · omega
            · rintro r6 m6 - _ _ r10 m10 ⟨em, er⟩ _
              rw [em]; exact h1.len (by simp)
            · rintro r6 m6 - _ _ r10 m10 ⟨em, er⟩ _
              rw [em, er]
              have h2 := i_mw.tell (v := R1) h1
              refine ⟨rfl, fun d a b => ?_, ?_, (F.up (by omega)).up (by omega), h2.2.1, h2.2.2⟩
              · rw [q_up_c (by decide), q_up_c (by decide), e12]; exact ey d a b
              · rw [q_up_i (by decide), q_up_c (by decide)]; exact e33
            · rintro r6 m6 h6 _ z6
              rcases h6 with h6 | h6
              · exact absurd h6.1 z6
              · obtain ⟨-, x, y', z, f, -⟩ := h6
                exact absurd f.1 (EN x y' z)
          · rintro i m' hi ⟨y, rfl, hy, ey, fy⟩ ih
            obtain ⟨x0, y0, z0, f0', es⟩ := ES y (by omega)
            have no : ∀ r6 : Int, ∀ m6 : qm, ((r6 = 0 ∧ m6 = m' ∧ ∀ x y' z, ¬ a_tr (E y) x y' z) ∨ (r6 = 1 ∧ ∃ x y' z, a_fs (E y) x y' z ∧ a_e36 (m6 197) (a_pass (E y) x y' z) ∧ q_fx (fun c _ => c = 197) m' m6)) → r6 = 1 ∧ a_e36 (m6 197) (E (y + 1)) ∧ q_fx (fun c _ => c = 197) m' m6 := fun r6 m6 h6 => by
              rcases h6 with h6 | h6
              · exact absurd f0'.1 (h6.2.2 x0 y0 z0)
              · obtain ⟨h61, x, y', z, f, h7, h8⟩ := h6
                obtain ⟨rfl, rfl, rfl⟩ := f.un f0'
                exact ⟨h61, by rw [es]; exact h7, h8⟩
            refine bkX12_settle_45 (P1 := fun r m2 => (r = 0 ∧ m2 = m' ∧ ∀ x y' z, ¬ a_tr (E y) x y' z) ∨ (r = 1 ∧ ∃ x y' z, a_fs (E y) x y' z ∧ a_e36 (m2 197) (a_pass (E y) x y' z) ∧ q_fx (fun c _ => c = 197) m' m2)) (P4 := fun _ _ r m4 => True) (sp_settleOne ey (EV y (by omega))) (fun _ _ _ _ _ => by decide) ?_ ?_ ?_ (fun _ _ _ _ _ => q_in_of (by omega) (by omega)) ?_
            · rintro r6 m6 h6 _ z6
              have := (no r6 m6 h6).1
              omega
            · rintro r6 m6 h6 _ z6
              have := (no r6 m6 h6).1
              omega
            · rintro r6 m6 h6 _ z6
              have := (no r6 m6 h6).1
              omega
            · rintro r6 m6 h6 _ z6
              obtain ⟨-, h7, h8⟩ := no r6 m6 h6
              exact ih m6 ⟨y + 1, by omega, by omega, h7, fy.tr (h8.mono (fun c i z => Or.inl z))⟩
        refine q_for (A := fun i m' => q_At yX12_settle cX12_settle 4 (some .int) 3 0 0 _ 12 [(2, 188), (0, R0), (0, i), (4, 0)] [] (q_sh0, q_rb b, m')) (fun i m' => 0 ≤ i ∧ i ≤ 6 ∧ a_pr D (m' 197) (fun x y => max x y < i) ∧ q_fx (fun c i => c = 197 ∨ (c = 188 ∧ i = 17)) m1 m') 6 ?_ ?_ 0 m2 ⟨by omega, by omega, ⟨fun x y a b c d n => ⟨fun z => absurd z (by omega), fun _ => e0 _ (by omega) (by omega)⟩, fun x a b => by rw [e0 _ (by omega) (by omega)]; exact vD.2 x a b⟩, g0⟩
        · rintro i m' hi ⟨i0, i1, pr, f⟩
          refine bkX12_settle_12 (fun _ => fin m' ?_ f) (fun z => absurd z (by omega))
          rw [E0]
          exact pr.all (fun x y a b c d => by omega)
        · rintro i m' hi ⟨i0, i1, pr, f⟩ ih
          refine bkX12_settle_12 (fun z => absurd z (by omega)) (fun _ => ?_)
          refine q_for (A := fun j m' => q_At yX12_settle cX12_settle 4 (some .int) 3 0 0 _ 20 [(2, 188), (0, R0), (0, i), (0, j)] [] (q_sh0, q_rb b, m')) (fun j m2 => 0 ≤ j ∧ j ≤ i ∧ a_pr D (m2 197) (fun x y => max x y < i ∨ (max x y = i ∧ min x y < j)) ∧ q_fx (fun c i => c = 197 ∨ (c = 188 ∧ i = 17)) m1 m2) i ?_ ?_ 0 m' ⟨by omega, by omega, pr.mo (fun x y a b c d n => by omega), f⟩
          · rintro j m2 hj ⟨j0, j1, pr2, f2⟩
            exact bkX12_settle_20 (P2 := fun _ _ => True) (fun _ => q_in_of (by omega) (by omega)) (fun _ => ih m2 ⟨by omega, by omega, pr2.mo (fun x y a b c d n => by omega), f2⟩) (fun z => absurd z (by omega)) (fun z => absurd z (by omega)) (fun z => absurd z (by omega))
          · rintro j m2 hj ⟨j0, j1, pr2, f2⟩ ih2
            refine bkX12_settle_20 (fun z => absurd z (by omega)) (fun z => absurd z (by omega)) (fun _ => sp_setOffM (D := m2 197) (fun _ _ _ => rfl) (pr2.v vD) ⟨i0, hi⟩ ⟨by omega, by omega⟩ (by omega)) (fun _ _ _ _ _ => q_in_of (by omega) (by omega)) ?_
            rintro _ r3 m3 ⟨h3, f3⟩ _
            exact ih2 m3 ⟨by omega, by omega, pr2.off ⟨i0, hi⟩ ⟨by omega, by omega⟩ (by omega) (by omega) (by omega) h3 (fun x y a b c d n => by omega), f2.tr (f3.mono (fun c i z => Or.inl z))⟩
    · rintro r2 m2 ⟨rfl, h1, h2, F2, h3⟩
      refine ⟨rfl, ?_⟩
      have cW : c_W m1 5 n (A.1, A.2.1, E N, A.2.2.2) := by
        have w := W1
        obtain ⟨a1, a2, a3, a4, a5, a6⟩ := w
        have e : ∀ c i, (c = 5 ∧ 8 ≤ i) ∨ (6 ≤ c ∧ c ≤ 9) ∨ c = 13 → m1 c i = m c i := fun c i z => F1 _ _ (by omega)
        refine ⟨fun j j0 j1 => ⟨(a1 j j0 j1).1.fr (e _ _ (by omega)) (e _ _ (by omega)) (fun i _ _ => e _ _ (by omega)), (e _ _ (by omega)).trans (a1 j j0 j1).2⟩, g1, (e _ _ (by omega)).trans a3, fun o o0 o1 => ?_, ?_, (e _ _ (by omega)).trans a6⟩
        · rw [e _ _ (by omega)]; exact a4 o o0 o1
        · rw [e _ _ (by omega), e _ _ (by omega), e _ _ (by omega), e _ _ (by omega), e _ _ (by omega), e _ _ (by omega), e _ _ (by omega)]; exact a5
      have rW : r_W m2 n (A.1, A.2.1, E N, A.2.2.2) := by
        have e : ∀ c i, c = 190 ∨ c = 195 ∨ c = 196 ∨ (c = 188 ∧ 10 ≤ i ∧ i ≤ 12) → m2 c i = m c i := fun c i z => (F2 _ _ (by omega)).trans (F1 _ _ (by omega))
        obtain ⟨a1, a2, a3, a4, a5⟩ := W2
        refine ⟨⟨fun j j0 j1 => ⟨(e _ _ (by omega)).trans (a1.1 j j0 j1).1, (e _ _ (by omega)).trans (a1.1 j j0 j1).2⟩, (e _ _ (by omega)).trans a1.2⟩, fun j q j0 j1 q0 q1 => ?_, h1, (e _ _ (by omega)).trans a4, (e _ _ (by omega)).trans a5⟩
        have q1 : q < m2 190 j := q1
        rw [e _ _ (by omega)] at q1
        exact (e _ _ (by omega)).trans (a2 j q j0 j1 q0 q1)
      have vE := EV N (Nat.le_refl N)
      have v' : a_V (1500 * ((k + 1 : Nat) : Int)) n (m 189) (A.1, A.2.1, E N, A.2.2.2) := by
        obtain ⟨a1, a2, a3, a4, a5, a6, a7⟩ := W3
        exact ⟨a1, a2, vE.1, vE.2, a5, by show A.2.2.2.1 ≤ _; omega, a7⟩
      have u4 := u.2.2.2.1
      have u5 := u.2.2.2.2.1
      refine i_I.wat hL t p x s kk l F1 F2 (by intro c i; unfold x_B x_T x_P x_X x_S x_K x_L; omega) (by intro c i; unfold x_B x_T x_P x_X x_S x_K x_L; omega) (by intro c i; omega) cW rW v' (P' := (0, fun _ => A)) ⟨g2, by show (0 : Int) ≤ 0; decide, by show (0 : Int) ≤ 12; decide, ?_, ?_, fun r r0 r1 => absurd r1 (by show ¬ r < 0; omega)⟩ ⟨h2, by show (0 : Int) ≤ 0; decide, by show (0 : Int) ≤ 12; decide, fun r r0 r1 => absurd r1 (by show ¬ r < 0; omega)⟩ (fun r r0 r1 => absurd r1 (by show ¬ r < 0; omega)) ?_
      · rw [F1 _ _ (by omega)]; exact u4
      · rw [F1 _ _ (by omega)]; exact u5
      · exact i_row rr (o := some [R0, R1]) (fun l z => by cases z; simp) g3 h3 ⟨F2 _ _ (by omega), fun i => F2 _ _ (by omega)⟩ ⟨F1 _ _ (by omega), fun i => F1 _ _ (by omega)⟩
