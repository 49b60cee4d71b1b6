/-! ===== law() joined ===== -/
theorem vp_nb8 {x : Int} (h : -128 ≤ x ∧ x ≤ 127) : vp_nar .byte (Int32.ofInt x) = Int32.ofInt x := by
  show (Int32.ofInt x).toInt8.toInt32 = Int32.ofInt x
  apply Int32.toInt_inj.mp
  rw [Int8.toInt_toInt32, Int32.toInt_toInt8, q_t32 (q_in_of (by omega) (by omega))]
  show Int.bmod x 256 = x
  rw [Int.bmod_def]
  split <;> omega
/-- all that is read of a law -/
def l_all (m : qm) : a_R × List Int := l_p (t_S m 198) (min (m 188 14) 40) 325 5 0 (0, -1)
theorem l_all_ok {m : qm} (x : i_X m) : l_OK (min (m 188 14) 40) 5 (0, -1) (l_all m) := by
  obtain ⟨x1, x2, x3, x4⟩ := x
  exact l_ok 325 5 0 (0, -1) (by decide) ⟨by decide, by show (0 : Int) ≤ min (m 188 14) 40; omega, by omega, by decide, by decide⟩ (by show 8 * (min (m 188 14) 40 - 0) + 5 ≤ ((325 : Nat) : Int); omega)
abbrev x_laC (c i : Int) : Prop := (c = 145 ∧ 1 ≤ i ∧ i ≤ 4) ∨ (c = 149 ∧ i = 4) ∨ c = 150
theorem sp_readLC {b : Int} {m : qm} (x : i_X m) : q_Ev yX2_read cX2_read 2 (some .int) 36 0 0 [(2, 149), (2, 145)] (q_sh0, q_rb b, m) (qK (q_rb b) (fun r m' => (m 188 14 = 0 → r = 0 ∧ l_dl m' []) ∧ (m 188 14 ≠ 0 → r = (if t_end (m 188 14) 40 (l_all m).1 = -1 then 0 else -1 - t_end (m 188 14) 40 (l_all m).1) ∧ (t_end (m 188 14) 40 (l_all m).1 = -1 → l_dl m' (l_all m).2)) ∧ q_fx (fun c i => x_laC c i ∧ ¬ (c = 145 ∧ i = 1)) m m')) := by
  have X := x
  obtain ⟨x1, x2, x3, x4⟩ := x
  have oA := l_all_ok X
  have F0 : q_fx (fun c i => c = 149 ∧ i = 4) m (q_up m 149 4 0) := q_fx.rf.up ⟨rfl, rfl⟩
  have X0 : i_X (q_up m 149 4 0) := X.fr F0 (by intro c i; unfold x_X; omega)
  have e14 : (q_up m 149 4 0) 188 14 = m 188 14 := q_up_c (by decide)
  have eS : t_S (q_up m 149 4 0) 198 = t_S m 198 := by funext i; unfold t_S; rw [q_up_c (by decide)]
  have D0 : l_dl (q_up m 149 4 0) [] := ⟨q_up_s, by decide, fun i hi => absurd hi (by simp)⟩
  have xr : ∀ c i, x_rC c i → x_laC c i ∧ ¬ (c = 145 ∧ i = 1) := by intro c i; unfold x_rC x_laC; omega
  refine q_enter (by decide +kernel) (by simp) (Nat.le_of_ble_eq_true rfl) ?_
  refine bkX2_read_0 (P3 := fun _ m1 r m3 => r = 0 ∧ q_fx x_rC m1 m3) (P4 := fun _ m1 _ m4 => l_Q (l_all m) (t_S m 198) (min (m 188 14) 40) [] m1 m4) (P5 := fun _ _ _ m4 r m5 => r = (if t_end (m 188 14) 40 (l_all m).1 = -1 then 0 else -1 - t_end (m 188 14) 40 (l_all m).1) ∧ q_fx x_rC m4 m5) (sp_open X0 (by decide)) ?_ ?_ ?_ ?_ ?_
  · rintro _ m1 ⟨c1, f1⟩ _ z
    rw [e14] at c1
    have e1 : m1 145 1 = m 188 14 := by rw [f1 145 1 (by omega), q_up_c (by decide), x1]
    refine (sp_close (L := m 188 14) c1 e1 (by decide) x3).post (fun r m3 y => ⟨?_, y.2⟩)
    rw [y.1, t_end_no rfl (by show ¬ (0 : Int) < _; omega) (by omega), if_pos rfl]
  · rintro _ m1 ⟨c1, f1⟩ _ z r3 m3 ⟨e3, f3⟩ _
    have e1 : m1 145 1 = m 188 14 := by rw [f1 145 1 (by omega), q_up_c (by decide), x1]
    refine ⟨fun _ => ⟨e3, (D0.fr f1 (by unfold x_dr; omega)).fr f3 (by intro c i; unfold x_dr x_rC; omega)⟩, fun y => absurd (show m 188 14 = 0 by omega) y, ((F0.mono (by intro c i; unfold x_laC; omega)).tr (f1.mono (by intro c i; unfold x_laC; omega))).tr (f3.mono xr)⟩
  · rintro _ m1 ⟨c1, f1⟩ _ z
    rw [eS, e14] at c1
    exact ((cl_lp (b := b) (S := t_S m 198) (lm := min (m 188 14) 40) 325).2.2.2.2 325 (Nat.le_refl _)) 0 (0, -1) [] m1 35 (by decide) (by decide) ⟨c1, D0.fr f1 (by unfold x_dr; omega), fun _ => by decide, by omega⟩ (by show 8 * (min (m 188 14) 40 - 0) + 5 ≤ ((325 : Nat) : Int); omega) (by decide)
  · rintro _ m1 ⟨c1, f1⟩ _ z r4 m4 ⟨c4, d4, f4⟩ _
    have e1 : m4 145 1 = m 188 14 := by rw [f4 145 1 (by unfold x_lwC x_rC x_dr; omega), f1 145 1 (by omega), q_up_c (by decide), x1]
    exact sp_close (L := m 188 14) c4 e1 (by decide) x3
  · rintro _ m1 ⟨c1, f1⟩ _ z r4 m4 ⟨c4, ⟨D4, d4, e4⟩, f4⟩ _ r5 m5 ⟨e5, f5⟩ _
    have e1 : m1 145 1 = m 188 14 := by rw [f1 145 1 (by omega), q_up_c (by decide), x1]
    refine ⟨fun y => by omega, fun _ => ⟨e5, fun y => ?_⟩, (((F0.mono (by intro c i; unfold x_laC; omega)).tr (f1.mono (by intro c i; unfold x_laC; omega))).tr (f4.mono (by intro c i; unfold x_lwC x_rC x_dr x_laC; omega))).tr (f5.mono xr)⟩
    have fi : (l_all m).1.2 = -1 := by
      rcases t_end_nn oA.1 (by decide : (0 : Int) ≤ 40) with q | q
      · exact q.2
      · omega
    have e4 := e4 fi
    rw [List.nil_append] at e4
    rw [← e4]
    exact d4.fr f5 (by intro c i; unfold x_dr x_rC; omega)
abbrev x_lbC (c i : Int) : Prop := x_laC c i ∨ (c = 149 ∧ i = 5) ∨ c = 151
theorem cl_law {b : Int} {m : qm} (x : i_X m) : q_Ev yX11_law cX11_law 2 (some .int) 37 0 0 [(2, 0)] (q_sh0, q_rb b, m) (qK (q_rb b) (fun r m' => m' 145 1 = 0 ∧ (m 188 14 = 0 → r = 0 ∧ l_cC m' []) ∧ (m 188 14 ≠ 0 → r = (if t_end (m 188 14) 40 (l_all m).1 = -1 then 0 else -1 - t_end (m 188 14) 40 (l_all m).1) ∧ (t_end (m 188 14) 40 (l_all m).1 = -1 → l_cC m' (l_all m).2) ∧ (t_end (m 188 14) 40 (l_all m).1 ≠ -1 → q_fx x_laC m m')) ∧ q_fx x_lbC m m')) := by
  have oA := l_all_ok x
  have nn := t_end_nn oA.1 (by decide : (0 : Int) ≤ 40)
  refine q_enter (by decide +kernel) (by simp) (Nat.le_of_ble_eq_true rfl) ?_
  refine bkX11_law_0 (P3 := fun _ m1 _ m3 => m3 = q_up (q_cp (q_up m1 145 1 0) 150 0 151 0 40) 149 5 (m1 149 4)) (sp_readLC x) ?_ ?_ ?_
  · rintro r1 m1 ⟨h0, h1, f1⟩ _ z
    have F : q_fx x_laC m (q_up m1 145 1 0) := (f1.mono (fun c i z => z.1)).up (by unfold x_laC; omega)
    refine ⟨q_up_s, fun y => absurd (h0 y).1 z, fun y => ⟨(h1 y).1, fun q => ?_, fun _ => F⟩, F.mono (fun c i z => Or.inl z)⟩
    exfalso
    have := (h1 y).1
    rw [if_pos q] at this
    exact z this
  · rintro r1 m1 ⟨h0, h1, f1⟩ _ z
    refine q_enter (by decide +kernel) (by simp) (Nat.le_of_ble_eq_true rfl) ?_
    refine bkX2_take_0 ?_
    rw [q_up_c (c := 145) (c' := 149) (by decide)]
  · rintro r1 m1 ⟨h0, h1, f1⟩ _ z r3 m3 rfl _
    have F : q_fx x_lbC m (q_up (q_cp (q_up m1 145 1 0) 150 0 151 0 40) 149 5 (m1 149 4)) := by
      refine q_fx.up ?_ (Or.inr (Or.inl ⟨rfl, rfl⟩))
      intro c i z
      rw [q_cp_c (fun y => z (Or.inr (Or.inr y)))]
      exact ((f1.mono (fun c i z => z.1)).up (c := 145) (i := 1) (v := 0) (by unfold x_laC; omega)) c i (fun y => z (Or.inl y))
    have mk : ∀ D, l_dl m1 D → (∀ x ∈ D, 0 ≤ x ∧ x ≤ 4000) → (D ≠ [] → l_W D) → l_cC (q_up (q_cp (q_up m1 145 1 0) 150 0 151 0 40) 149 5 (m1 149 4)) D := by
      rintro D ⟨d1, d2, d3⟩ d4 d5
      refine ⟨by rw [q_up_s]; exact d1, d2, d4, fun i hi => ?_, d5⟩
      rw [q_up_c (by decide), q_cp_s (by omega) (by omega), q_up_c (by decide)]; exact d3 i hi
    refine ⟨by rw [q_up_c (by decide), q_cp_c (by decide), q_up_s], fun y => ⟨z, mk [] (h0 y).2 (fun x hx => absurd hx (by simp)) (fun q => absurd rfl q)⟩, fun y => ?_, F⟩
    have te : t_end (m 188 14) 40 (l_all m).1 = -1 := by
      rcases nn with q | q
      · exact q.1
      · exfalso
        have := (h1 y).1
        rw [if_neg (by omega)] at this
        omega
    exact ⟨(h1 y).1, fun _ => mk _ ((h1 y).2 te) (l_mem 325 5 0 (0, -1)) (fun _ => (oA.2.2 (by
      rcases nn with q | q
      · exact q.2
      · omega)).2.2.2 (by decide)), fun q => absurd te q⟩
abbrev x_laM (c i : Int) : Prop := c = 188 ∧ (i = 14 ∨ i = 17 ∨ (19 ≤ i ∧ i ≤ 22) ∨ i = 26)
abbrev x_lbM (c i : Int) : Prop := x_laM c i ∨ (c = 188 ∧ i = 25) ∨ c = 201
def r_lpost (L : Int) (R : a_R × List Int) (m : qm) : Int → qm → Prop := fun r m' => m' 188 14 = 0 ∧ (L = 0 → r = 0 ∧ l_cR m' []) ∧ (L ≠ 0 → r = (if t_end L 40 R.1 = -1 then 0 else -1 - t_end L 40 R.1) ∧ (t_end L 40 R.1 = -1 → l_cR m' R.2) ∧ (t_end L 40 R.1 ≠ -1 → q_fx x_laM m m')) ∧ q_fx x_lbM m m'
theorem rf_law {b : Int} {m : qm} (x0 : 0 ≤ m 188 14 ∧ m 188 14 ≤ 80) (x4 : ∀ i, 0 ≤ i → i < m 188 14 → -128 ≤ m 198 i ∧ m 198 i ≤ 127) (oA : l_OK (min (m 188 14) 40) 5 (0, -1) (l_all m)) : q_Ev yX12_law cX12_law 3 (some .int) 71 0 0 [(2, 188)] (q_sh0, q_rb b, m) (qK (q_rb 198) (r_lpost (m 188 14) (l_all m) m)) := by
  have nn := t_end_nn oA.1 (by decide : (0 : Int) ≤ 40)
  refine q_enter (by decide +kernel) (by simp) (Nat.le_of_ble_eq_true rfl) ?_
  -- copying the text
  have at73 : ∀ m1 : qm, m1 188 14 = 0 → q_fx x_laM m m1 → m 188 14 ≤ 40 → (m 188 14 ≠ 0 → t_end (m 188 14) 40 (l_all m).1 = -1) → ∀ (d : Nat) (i : Int) (m' : qm), 0 ≤ i → i + d = m 188 14 → q_fx (fun c _ => c = 201) m1 m' → (∀ q, 0 ≤ q → q < i → m' 201 q = m 198 q) → q_At yX12_law cX12_law 3 (some .int) 71 0 0 (qK (q_rb 198) (r_lpost (m 188 14) (l_all m) m)) 73 [(2, 188), (0, m 188 14), (0, i)] [] (q_sh0, q_rb 198, m') := by
    intro m1 h14 F1 h40 hte d
    induction d with
    | zero =>
      intro i m' i0 hi f hq
      have hi : i = m 188 14 := by omega
      refine bkX12_law_73 (b := 198) (fun _ => ?_) (fun z => absurd z (by omega)) (fun z => absurd z (by omega))
      have F : q_fx x_lbM m (q_up m' 188 25 (m 188 14)) := ((F1.mono (fun c i z => Or.inl z)).tr (f.mono (fun c i z => Or.inr (Or.inr z)))).up (Or.inr (Or.inl ⟨rfl, rfl⟩))
      refine ⟨by rw [q_up_i (by decide), f 188 14 (by simp)]; exact h14, fun y => ⟨rfl, ?_⟩, fun y => ?_, F⟩
      · refine ⟨by rw [q_up_s]; omega, by rw [q_up_s]; omega, by rw [q_up_s, y]; exact ⟨fun _ => rfl, fun _ => rfl⟩, fun z => absurd (by rw [q_up_s, y]) z⟩
      · have te := hte y
        have fi : (l_all m).1.2 = -1 := by
          rcases nn with q | q
          · exact q.2
          · omega
        refine ⟨by rw [if_pos te], fun _ => ?_, fun q => absurd te q⟩
        have o := oA.2.2 fi
        have ha : (l_all m).1 = (m 188 14, -1) := by
          have k2 := oA.1.2.1
          unfold t_end at te
          rw [if_pos fi] at te
          by_cases q : (l_all m).1.1 < min (m 188 14) 40
          · rw [if_pos q] at te; have := oA.1.1; omega
          · refine Prod.ext ?_ fi
            show (l_all m).1.1 = m 188 14
            omega
        have hl : min (m 188 14) 40 = m 188 14 := by omega
        refine ⟨by rw [q_up_s]; omega, by rw [q_up_s]; omega, ?_, fun _ => ⟨t_S m 198, ?_, fun i i0 i1 => ?_⟩⟩
        · rw [q_up_s]
          refine ⟨fun q => absurd q y, fun q => ?_⟩
          exfalso
          have w := (o.2.2.2 (by decide)).1 (fun _ => 0) []
          rw [q] at w
          exact absurd w (by simp [c_run])
        · rw [q_up_s, ← ha]
          show _ = l_all m
          unfold l_all
          rw [hl]
        · rw [q_up_s] at i1
          rw [q_up_c (by decide), hq i i0 (by omega)]
          unfold t_S
          by_cases h : 0 ≤ m 198 i
          · rw [if_pos h]; exact Or.inl ⟨rfl, h⟩
          · rw [if_neg h]; exact Or.inr ⟨rfl, by omega⟩
    | succ d ih =>
      intro i m' i0 hi f hq
      have e198 : m' 198 i = m 198 i := by rw [f 198 i (by simp), F1 198 i (by unfold x_laM; omega)]
      refine bkX12_law_73 (b := 198) (fun z => absurd z (by omega)) (fun _ => ⟨by omega, by omega, ?_, q_in_of (by omega) (by omega)⟩) (fun _ => ?_)
      · rw [e198]; exact vp_nb8 (x4 i i0 (by omega))
      · refine ih (i + 1) _ (by omega) (by omega) (f.up rfl) (fun q q0 q1 => ?_)
        by_cases h : q = i
        · rw [h, q_up_s]; exact e198
        · rw [q_up_i h]; exact hq q q0 (by omega)
  have base : ∀ m1, m1 = q_up (q_up (q_up (q_up (q_up (q_up (q_up m 188 17 0) 188 19 (m 188 14)) 188 20 40) 188 21 0) 188 22 (-1)) 188 14 0) 188 26 (-1) → q_fx x_laM m m1 ∧ m1 188 14 = 0 ∧ m1 188 26 = -1 ∧ r_R 198 m1 (t_S m 198) (min (m 188 14) 40) (0, -1) := by
    intro m1 hm1
    have F : q_fx x_laM m m1 := by rw [hm1]; refine ((((((q_fx.rf.up ?_).up ?_).up ?_).up ?_).up ?_).up ?_).up ?_ <;> exact ⟨rfl, by decide⟩
    refine ⟨F, by rw [hm1, q_up_i (by decide), q_up_s], by rw [hm1, q_up_s], ?_, ?_, fun _ => ?_, ⟨by decide, by show (0 : Int) ≤ min (m 188 14) 40; omega, by omega, by decide, by decide⟩, fun i i0 i1 => ?_, by decide, 80, qs198, by omega⟩
    · rw [hm1, q_up_i (by decide), q_up_i (by decide), q_up_i (by decide), q_up_i (by decide), q_up_i (by decide), q_up_s, q_up_i (by decide), q_up_i (by decide), q_up_i (by decide), q_up_i (by decide), q_up_s]
    · rw [hm1, q_up_i (by decide), q_up_i (by decide), q_up_s]
    · rw [hm1, q_up_i (by decide), q_up_i (by decide), q_up_i (by decide), q_up_s]
    · rw [F 198 i (by unfold x_laM; omega)]
      unfold t_S
      by_cases h : 0 ≤ m 198 i
      · rw [if_pos h]; exact Or.inl ⟨rfl, h⟩
      · rw [if_neg h]; exact Or.inr ⟨rfl, by omega⟩
  refine bkX12_law_0 (P3 := fun _ m1 _ m3 => r_R 198 m3 (t_S m 198) (min (m 188 14) 40) (l_all m).1 ∧ q_fx x_laM m m3 ∧ m3 188 14 = 0) (P6 := fun _ _ _ m3 _ m6 => m6 188 22 = (if (l_all m).1.2 = -1 then (l_all m).1.1 else (l_all m).1.2) ∧ q_fx x_laM m m6 ∧ m6 188 14 = 0) sp_begin3 ?_ ?_ ?_ ?_ ?_ ?_ ?_ ?_ ?_
  · rintro _ m1 rfl _ z
    obtain ⟨F, h14, -, -⟩ := base _ rfl
    have h0 : m 188 14 = 0 := by omega
    have := at73 _ h14 F (by omega) (fun y => absurd h0 y) 0 0 _ (by decide) (by omega) q_fx.rf (fun q q0 q1 => by omega)
    exact this
  · rintro _ m1 rfl _ z
    obtain ⟨F, h14, h26, r⟩ := base _ rfl
    refine (((rl_lp (b := 198) (S := t_S m 198) (lm := min (m 188 14) 40) (e := fun _ => 0) (fun _ => q_in_of (by decide) (by decide)) 325).2.2.2 325 (Nat.le_refl _)) 0 (0, -1) _ 70 (by decide) (by decide) r (by omega) (fun y => absurd h26 y) (by show 8 * (min (m 188 14) 40 - 0) + 5 ≤ ((325 : Nat) : Int); omega) (by show 4 * (4 - 0) + (min (m 188 14) 40 - 0) + 14 ≤ ((70 : Nat) : Int); omega)).post (fun r3 m3 q => ⟨q.1, F.tr (q.2.2.mono (by intro c i; unfold x_rM x_laM; omega)), (q.2.2 188 14 (by unfold x_rM; omega)).trans h14⟩)
  · rintro _ m1 rfl _ z r3 m3 ⟨c3, F3, h14⟩ _ z1 z2
    have fi : (l_all m).1.2 = -1 := by rw [← c3.2.1]; exact z2
    have ea := c3.2.2.1 fi
    have k2 := oA.1.2.1
    have te : t_end (m 188 14) 40 (l_all m).1 = -1 := t_end_no fi (by omega) (by omega)
    exact at73 m3 h14 F3 (by omega) (fun _ => te) (m 188 14).toNat 0 m3 (by decide) (by omega) q_fx.rf (fun q q0 q1 => by omega)
  · rintro _ m1 rfl _ z r3 m3 ⟨c3, F3, h14⟩ _ z1 z2
    have := c3.2.1
    have := oA.1.2.2.2
    exact q_in_of (by omega) (by omega)
  · rintro _ m1 rfl _ z r3 m3 ⟨c3, F3, h14⟩ _ z1 z2
    have nf : (l_all m).1.2 ≠ -1 := by rw [← c3.2.1]; exact z2
    have te := t_end_fl (L := m 188 14) (most := 40) nf
    exact ⟨h14, fun y => by omega, fun y => ⟨by rw [te, if_neg nf, c3.2.1], fun q => absurd (te.symm.trans q) nf, fun _ => F3⟩, F3.mono (fun c i z => Or.inl z)⟩
  · rintro _ m1 rfl _ z r3 m3 ⟨c3, F3, h14⟩ _ z1
    have k1 := oA.1.1
    have k2 := oA.1.2.1
    by_cases fi : (l_all m).1.2 = -1
    · rw [c3.2.2.1 fi]
      refine (sp_faultM c3 (by omega) (by omega)).post (fun _ m6 q => ⟨?_, F3.tr (q.2.mono (by intro c i; unfold x_laM; omega)), (q.2 188 14 (by omega)).trans h14⟩)
      rw [q.1.2.1]; rfl
    · refine (sp_faultFl (c3.fa fi)).post (fun _ m6 q => ?_)
      rw [q]
      exact ⟨by rw [if_neg fi, c3.2.1], F3, h14⟩
  · rintro _ m1 rfl _ z r3 m3 ⟨c3, F3, h14⟩ _ z1 r6 m6 ⟨e6, F6, g14⟩ _ z2
    exfalso
    have k1 := oA.1.1
    rw [z2] at e6
    split at e6 <;> omega
  · rintro _ m1 rfl _ z r3 m3 ⟨c3, F3, h14⟩ _ z1 r6 m6 ⟨e6, F6, g14⟩ _ z2
    have k1 := oA.1.1
    have k2 := oA.1.2.1
    have := oA.1.2.2.2
    split at e6 <;> exact q_in_of (by omega) (by omega)
  · rintro _ m1 rfl _ z r3 m3 ⟨c3, F3, h14⟩ _ z1 r6 m6 ⟨e6, F6, g14⟩ _ z2
    have k1 := oA.1.1
    have k2 := oA.1.2.1
    have te : t_end (m 188 14) 40 (l_all m).1 = m6 188 22 := by
      by_cases fi : (l_all m).1.2 = -1
      · rw [if_pos fi] at e6
        have ea := c3.2.2.1 fi
        by_cases q : (l_all m).1.1 < min (m 188 14) 40
        · rw [t_end_lt fi q, e6]
        · rw [t_end_lo fi q (by omega)]; omega
      · rw [if_neg fi] at e6
        rw [t_end_fl fi, e6]
    exact ⟨g14, fun y => by omega, fun y => ⟨by rw [te, if_neg z2], fun q => absurd (te.symm.trans q) z2, fun _ => F6⟩, F6.mono (fun c i z => Or.inl z)⟩
theorem op_law {c k : Nat} {b : Int} {m : qm} (I : i_I (l_LW c) k m) :
    q_Ev yX11_law cX11_law 2 (some .int) 37 0 0 [(2, 0)] (q_sh0, q_rb b, m) (qK (q_rb b) (fun r m1 => q_Ev yX12_law cX12_law 3 (some .int) 71 0 0 [(2, 188)] (q_sh0, q_rb b, m1) (i_O (l_LW c) (k + 1) r))) := by
  have I2 := I
  obtain ⟨n, t, p, a, x, r, s, u, kk, l⟩ := I2
  have hb : (1500 * (k : Int)) ≤ 1500 * ((k + 1 : Nat) : Int) := by omega
  have oA := l_all_ok x
  refine (cl_law x).post ?_
  rintro r1 m1 ⟨e1, h0, h1, f1⟩
  have eR : ∀ c i, 188 ≤ c → m1 c i = m c i := fun c i z => f1 c i (by unfold x_lbC x_laC; omega)
  have e14 : m1 188 14 = m 188 14 := eR _ _ (by decide)
  have eS : t_S m1 198 = t_S m 198 := by funext i; unfold t_S; rw [eR 198 i (by decide)]
  have eA : l_all m1 = l_all m := by unfold l_all; rw [eS, e14]
  refine i_O_of (b := 198) ((rf_law (by rw [e14]; exact ⟨x.2.1, x.2.2.1⟩) (fun i i0 i1 => by rw [eR 198 i (by decide)]; exact (x.2.2.2 i i0 (by omega)).2) (by rw [eA, e14]; exact oA)).post ?_)
  rintro r2 m2 ⟨g14, g0, g1, f2⟩
  rw [e14] at g0 g1
  rw [eA] at g1
  have er : r2 = r1 := by
    by_cases y : m 188 14 = 0
    · rw [(g0 y).1, (h0 y).1]
    · rw [(g1 y).1, (h1 y).1]
  refine ⟨er, ?_⟩
  have F : q_fx (fun c i => x_lbC c i ∨ x_lbM c i) m m2 := (f1.mono (fun c i z => Or.inl z)).tr (f2.mono (fun c i z => Or.inr z))
  have e145 : m2 145 1 = 0 := (f2 145 1 (by unfold x_lbM x_laM; omega)).trans e1
  have c2 : ∀ C, l_cC m1 C → l_cC m2 C := fun C h => h.fr f2 (by unfold x_lbM x_laM; omega)
  have e51 : m2 188 51 = m 188 51 := F _ _ (by unfold x_lbC x_laC x_lbM x_laM; omega)
  have L2 : l_LW c m2 := by
    refine ⟨?_, by rw [e51]; exact l.2⟩
    by_cases y : m 188 14 = 0
    · exact ⟨[], c2 _ (h0 y).2, (g0 y).2⟩
    · by_cases te : t_end (m 188 14) 40 (l_all m).1 = -1
      · exact ⟨(l_all m).2, c2 _ ((h1 y).2.1 te), (g1 y).2.1 te⟩
      · obtain ⟨C, C1, C2⟩ := l.1
        exact ⟨C, c2 _ (C1.fr ((h1 y).2.2 te) (by unfold x_laC; omega)), (C2.fr f1 (by unfold x_lbC x_laC; omega)).fr ((g1 y).2.2 te) (by unfold x_laM; omega)⟩
  exact ⟨n, t.fr F (by intro c i; simp only [x_T, x_lbC, x_laC, x_lbM, x_laM]; omega), p.fr F (by intro c i; simp only [x_P, x_lbC, x_laC, x_lbM, x_laM]; omega), (a.fr F (by intro c i; simp only [x_N, x_lbC, x_laC, x_lbM, x_laM]; omega)).mo hb, ⟨by omega, by omega, by omega, fun i i0 i1 => by omega⟩, r.fr F (by intro c i; simp only [x_R, x_lbC, x_laC, x_lbM, x_laM]; omega), s.fr F (by intro c i; simp only [x_S, x_lbC, x_laC, x_lbM, x_laM]; omega), (u.fr F (by intro c i; simp only [x_U, x_lbC, x_laC, x_lbM, x_laM]; omega)).mo hb, (kk.fr F (by intro c i; simp only [x_K, x_lbC, x_laC, x_lbM, x_laM]; omega)).mo hb, L2⟩
