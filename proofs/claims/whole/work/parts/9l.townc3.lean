/-! ===== the class's town() ===== -/
theorem t_end_nn {L most : Int} {s : a_R} (ok : t_ok (min L most) s) (h0 : 0 ≤ most) : (t_end L most s = -1 ∧ s.2 = -1) ∨ 0 ≤ t_end L most s := by
  obtain ⟨a, b, c, d, e⟩ := ok
  unfold t_end
  by_cases h : s.2 = -1
  · rw [if_pos h]
    by_cases h1 : s.1 < min L most
    · rw [if_pos h1]; exact Or.inr a
    · rw [if_neg h1]
      by_cases h2 : most < L
      · rw [if_pos h2]; exact Or.inr h0
      · rw [if_neg h2]; exact Or.inl ⟨rfl, h⟩
  · rw [if_neg h]; right; omega
/-- the town as it is before -/
def t_G0 (n : Int) (m : qm) : qm := fun c i => if c = 7 then n else if c = 0 then m 189 i else if c = 1 then m 190 i else if c = 2 then m 191 i else if c = 3 then m 192 i else if c = 4 then m 193 i else if c = 5 then m 194 i else if c = 6 then m 197 i else 0
theorem t_G0_s {n : Int} {m : qm} : t_G0 n m 7 0 = n ∧ t_G0 n m 0 = m 189 ∧ t_G0 n m 1 = m 190 ∧ t_G0 n m 2 = m 191 ∧ t_G0 n m 3 = m 192 ∧ t_G0 n m 4 = m 193 ∧ t_G0 n m 5 = m 194 ∧ t_G0 n m 6 = m 197 := ⟨rfl, rfl, rfl, rfl, rfl, rfl, rfl, rfl⟩
theorem t_G0_V {B : Int} {n : Nat} {m : qm} (t : i_T n m) (a : i_N B n m) : t_GV n (t_G0 n m) := by
  obtain ⟨e7, e0, e1, e2, e3, e4, e5, e6⟩ := t_G0_s (n := n) (m := m)
  have t1 := t.1
  refine ⟨by omega, by omega, by omega, fun j j0 j1 => by omega, fun d d0 d1 => ?_, fun x x0 x1 => ?_⟩
  · rw [e6]; exact a.2.2.1 d d0 d1
  · rw [e6]; exact a.2.2.2.1 x x0 x1
/-- all that is read: lines, the town, where the reading stands -/
def t_all (n : Int) (m : qm) : Int × qm × a_R := t_tw (t_S m 198) (min (m 188 14) 76) 100 0 (t_G0 n m, (0, -1))
def t_ans (L : Int) (R : Int × qm × a_R) : Int := if t_end L 76 R.2.2 = -1 then R.1 else -1 - t_end L 76 R.2.2
theorem sp_readTC {b : Int} {k : Nat} {m : qm} {n : Nat} (t : i_T n m) (p : i_P n m) (a : i_N (1500 * k) n m) (x : i_X m) :
    q_Ev yX10_read cX10_read 4 (some .int) 6 0 0 [(2, 147)] (q_sh0, q_rb b, m) (qK (q_rb b) (fun r m' => r = t_ans (m 188 14) (t_all n m) ∧ c_G n m' (t_all n m).2.1 ∧ t_GV n (t_all n m).2.1 ∧ (t_ok (min (m 188 14) 76) (t_all n m).2.2 ∧ 0 ≤ (t_all n m).1) ∧ q_fx (x_toC n) m m')) := by
  obtain ⟨x1, x2, x3, x4⟩ := x
  have gv0 := t_G0_V t a
  have t2 := t.2.1
  refine q_enter (by decide +kernel) (by simp) (Nat.le_of_ble_eq_true rfl) ?_
  have F0 : q_fx (fun c i => (c = 147 ∧ i = 4) ∨ c = 148) m (q_cp (q_up m 147 4 (m 1 3)) 12 0 148 0 36) := by
    intro c i z
    rw [q_cp_c (by omega)]
    unfold q_up; rw [if_neg (by omega)]
  have X0 : i_X (q_cp (q_up m 147 4 (m 1 3)) 12 0 148 0 36) := i_X.fr ⟨x1, x2, x3, x4⟩ F0 (by intro c i; unfold x_X; omega)
  have e14 : (q_cp (q_up m 147 4 (m 1 3)) 12 0 148 0 36) 188 14 = m 188 14 := F0 _ _ (by omega)
  have eS : t_S (q_cp (q_up m 147 4 (m 1 3)) 12 0 148 0 36) 198 = t_S m 198 := by
    funext i; unfold t_S; rw [F0 198 i (by omega)]
  have C0 : c_G n (q_cp (q_up m 147 4 (m 1 3)) 12 0 148 0 36) (t_G0 n m) := by
    obtain ⟨e7, e0, e1, e2, e3, e4, e5, e6⟩ := t_G0_s (n := n) (m := m)
    refine ⟨?_, fun i i0 i1 => ?_, fun d d0 d1 => ?_, fun j j0 j1 => by omega⟩
    · rw [q_cp_c (by decide), q_up_s, e7]; exact t2
    · rw [e7] at i1
      rw [e0, e3, e4, e2, e5, F0 2 i (by omega), F0 3 i (by omega), F0 4 i (by omega), F0 10 i (by omega), F0 11 i (by omega)]
      have q := t.2.2.2 i i0 i1
      have w := p i i0 i1
      exact ⟨q.1, q.2.1, q.2.2.1, w.1, w.2.2.2.1⟩
    · rw [q_cp_s d0 d1, e6, q_up_c (by decide)]
      exact a.1.2.1 d d0 d1
  have go : ∀ (f : Nat) (v1 : Int) (u : qm × a_R) (m' : qm), min (m 188 14) 76 - u.2.1 < f → 0 ≤ v1 → 2 * v1 ≤ u.2.1 → u.2.2 = -1 → c_R m' (t_S m 198) (min (m 188 14) 76) u.2 → c_G n m' u.1 → t_GV n u.1 → q_fx (x_toC n) m m' → t_tw (t_S m 198) (min (m 188 14) 76) f v1 u = t_all n m →
      q_At yX10_read cX10_read 4 (some .int) 6 0 0 (qK (q_rb b) (fun r m' => r = t_ans (m 188 14) (t_all n m) ∧ c_G n m' (t_all n m).2.1 ∧ t_GV n (t_all n m).2.1 ∧ (t_ok (min (m 188 14) 76) (t_all n m).2.2 ∧ 0 ≤ (t_all n m).1) ∧ q_fx (x_toC n) m m')) 45 [(2, 147), (0, v1), (0, 1), (4, 0)] [] (q_sh0, q_rb b, m') := by
    intro f
    induction f with
    | zero =>
      intro v1 u m' hf v0 v2 uf c cg gv fx he
      have := c.2.2.2.1.2.1
      omega
    | succ f ih =>
      intro v1 u m' hf v0 v2 uf c cg gv fx he
      have ok := c.2.2.2.1
      have okl := t_line_ok (S := t_S m 198) ok
      have k2 := ok.2.1
      simp only [t_tw] at he
      refine bkX10_read_45 (P2 := fun _ _ => True) (P5 := fun _ _ => True) (P8 := fun _ m7 r m8 => ((r = 1 ∧ t_is (t_S m 198) (min (m 188 14) 76) (t_line (t_S m 198) (min (m 188 14) 76) u).2 59 ∧ c_R m8 (t_S m 198) (min (m 188 14) 76) ((t_line (t_S m 198) (min (m 188 14) 76) u).2.1 + 1, (t_line (t_S m 198) (min (m 188 14) 76) u).2.2)) ∨ (r = 0 ∧ ¬ t_is (t_S m 198) (min (m 188 14) 76) (t_line (t_S m 198) (min (m 188 14) 76) u).2 59 ∧ c_R m8 (t_S m 198) (min (m 188 14) 76) (t_line (t_S m 198) (min (m 188 14) 76) u).2)) ∧ q_fx x_rC m7 m8) (fun z => absurd z (by decide)) (fun z => absurd z (by decide)) (fun z => absurd z (by decide)) (fun _ z => absurd z (by omega)) (fun _ z => absurd z (by omega)) (fun _ z => absurd z (by omega)) (fun _ _ => sp_lineC c uf gv cg) (fun _ _ _ _ _ _ => q_in_of (by omega) (by omega)) ?_ ?_
      · rintro _ _ r7 m7 ⟨c7, g7, f7⟩ _
        exact sp_skipC c7 (by decide) (by decide)
      · rintro _ _ r7 m7 ⟨c7, g7, f7⟩ _ r8 m8 ⟨g8, f8⟩ _
        have g8G : c_G n m8 (t_line (t_S m 198) (min (m 188 14) 76) u).1 := g7.fr f8 (by intro c i; unfold x_rC; omega)
        have gvl := gv.line (S := t_S m 198) ok
        have fx8 : q_fx (x_toC n) m m8 := (fx.tr f7).tr (f8.mono (by intro c i; unfold x_rC x_toC; omega))
        rcases g8 with ⟨rfl, i8, c8⟩ | ⟨rfl, i8, c8⟩
        · rw [if_pos i8] at he
          have lp := (t_line_p ok i8.1).2
          exact ih (v1 + 1) ((t_line (t_S m 198) (min (m 188 14) 76) u).1, ((t_line (t_S m 198) (min (m 188 14) 76) u).2.1 + 1, (t_line (t_S m 198) (min (m 188 14) 76) u).2.2)) m8 (by show min (m 188 14) 76 - ((t_line (t_S m 198) (min (m 188 14) 76) u).2.1 + 1) < f; omega) (by omega) (by show 2 * (v1 + 1) ≤ (t_line (t_S m 198) (min (m 188 14) 76) u).2.1 + 1; omega) i8.1 c8 g8G gvl fx8 he
        · rw [if_neg i8] at he
          have e21 : (t_all n m).2.2 = (t_line (t_S m 198) (min (m 188 14) 76) u).2 := by rw [← he]
          have e22 : (t_all n m).2.1 = (t_line (t_S m 198) (min (m 188 14) 76) u).1 := by rw [← he]
          have e20 : (t_all n m).1 = v1 + 1 := by rw [← he]
          have cl := (sp_close (b := b) (most := 76) (L := m 188 14) c8 ((fx8 145 1 (by unfold x_toC; omega)).trans x1) (by decide) x3)
          have fin : ∀ r m9, (r = (if t_end (m 188 14) 76 (t_line (t_S m 198) (min (m 188 14) 76) u).2 = -1 then 0 else -1 - t_end (m 188 14) 76 (t_line (t_S m 198) (min (m 188 14) 76) u).2) ∧ q_fx x_rC m8 m9) → c_G n m9 (t_all n m).2.1 ∧ t_GV n (t_all n m).2.1 ∧ (t_ok (min (m 188 14) 76) (t_all n m).2.2 ∧ 0 ≤ (t_all n m).1) ∧ q_fx (x_toC n) m m9 := by
            rintro r m9 ⟨_, f9⟩
            rw [e22, e21, e20]
            exact ⟨g8G.fr f9 (by intro c i; unfold x_rC; omega), gvl, ⟨okl, by omega⟩, fx8.tr (f9.mono (by intro c i; unfold x_rC x_toC; omega))⟩
          have nn := t_end_nn okl (by decide : (0 : Int) ≤ 76)
          refine bkX10_read_45 (P5 := fun _ _ => True) (P7 := fun _ _ => True) (P8 := fun _ _ _ _ => True) (fun _ => cl) ?_ ?_ (fun z => absurd rfl z) (fun z => absurd rfl z) (fun z => absurd rfl z) (fun z => absurd rfl z) (fun z => absurd rfl z) (fun z => absurd rfl z) (fun z => absurd rfl z)
          · rintro _ r9 m9 h9 _ z
            refine ⟨?_, fin r9 m9 h9⟩
            have h9 := h9.1
            unfold t_ans
            rw [e21, e20]
            by_cases q : t_end (m 188 14) 76 (t_line (t_S m 198) (min (m 188 14) 76) u).2 = -1
            · rw [if_pos q]
            · rw [if_neg q] at h9; omega
          · rintro _ r9 m9 h9 _ z
            refine ⟨?_, fin r9 m9 h9⟩
            have h9 := h9.1
            unfold t_ans
            rw [e21]
            by_cases q : t_end (m 188 14) 76 (t_line (t_S m 198) (min (m 188 14) 76) u).2 = -1
            · rw [if_pos q] at h9; omega
            · rw [if_neg q] at h9 ⊢; exact h9
  refine bkX10_read_0 (sp_open X0 (by decide)) ?_
  rintro _ m1 ⟨c1, f1⟩ _
  rw [eS, e14] at c1
  refine go 100 0 (t_G0 n m, (0, -1)) m1 (by show min (m 188 14) 76 - 0 < 100; omega) (by decide) (by show (2 : Int) * 0 ≤ 0; decide) rfl c1 (C0.fr f1 (by omega)) gv0 ?_ rfl
  exact (F0.mono (by intro c i; unfold x_toC; omega)).tr (f1.mono (by intro c i; unfold x_toC; omega))
abbrev x_ucC (n0 c i : Int) : Prop := x_toC n0 c i ∨ (c = 145 ∧ i = 1)
abbrev x_uC (n0 c i : Int) : Prop := x_ucC n0 c i ∨ (c = 1 ∧ i = 3) ∨ c = 12 ∨ (c = 33 ∧ i = 2)
/-- the class has the new town -/
def c_H (n0 : Int) (m G : qm) : Prop := m 1 3 = G 7 0 ∧ (∀ i, 0 ≤ i → i < G 7 0 → m 2 i = G 0 i ∧ m 3 i = G 3 i ∧ m 4 i = G 4 i ∧ m 10 i = G 2 i ∧ m 11 i = G 5 i) ∧ (∀ d, 0 ≤ d → d < 36 → m 12 d = G 6 d) ∧ (∀ j, n0 ≤ j → j < G 7 0 → w_j m 5 j (G 1 j) (fun _ => G 3 j) ∧ m 9 j = 0) ∧ m 33 2 = 0
theorem cl_town {b : Int} {k : Nat} {m : qm} {n : Nat} (t : i_T n m) (p : i_P n m) (a : i_N (1500 * k) n m) (x : i_X m) (h0 : m 188 14 ≠ 0) :
    q_Ev yX11_town cX11_town 3 (some .int) 7 0 0 [(2, 0)] (q_sh0, q_rb b, m) (qK (q_rb b) (fun r m' => r = t_ans (m 188 14) (t_all n m) ∧ m' 145 1 = 0 ∧ t_GV n (t_all n m).2.1 ∧ (t_ok (min (m 188 14) 76) (t_all n m).2.2 ∧ 0 ≤ (t_all n m).1) ∧ q_fx (x_uC n) m m' ∧ (t_end (m 188 14) 76 (t_all n m).2.2 ≠ -1 → q_fx (x_ucC n) m m') ∧ (t_end (m 188 14) 76 (t_all n m).2.2 = -1 → c_H n m' (t_all n m).2.1))) := by
  have x1 := x.1
  refine q_enter (by decide +kernel) (by simp) (Nat.le_of_ble_eq_true rfl) ?_
  refine bkX11_town_0 (P4 := fun _ m2 _ m' => m' = q_cp (q_up (q_up m2 145 1 0) 1 3 (m2 147 4)) 148 0 12 0 36) (fun _ => sp_readTC t p a x) ?_ ?_ ?_ (fun z => absurd (x1.symm.trans z) h0)
  · rintro _ r2 m2 ⟨e, cg, gv, ok, f⟩ _ z
    have F : q_fx (x_ucC n) m (q_up m2 145 1 0) := (f.mono (fun c i z => Or.inl z)).up (Or.inr ⟨rfl, rfl⟩)
    refine ⟨e, q_up_s, gv, ok, F.mono (fun c i z => Or.inl z), fun _ => F, fun y => ?_⟩
    unfold t_ans at e; rw [if_pos y] at e; omega
  · rintro _ r2 m2 ⟨e, cg, gv, ok, f⟩ _ z
    refine q_enter (by decide +kernel) (by simp) (Nat.le_of_ble_eq_true rfl) ?_
    refine bkX10_letIn_0 ?_
    rw [q_up_c (c := 145) (c' := 147) (by decide)]
  · rintro _ r2 m2 ⟨e, cg, gv, ok, f⟩ _ z r4 m4 rfl _
    have F : q_fx (x_uC n) m (q_up (q_cp (q_up (q_up m2 145 1 0) 1 3 (m2 147 4)) 148 0 12 0 36) 33 2 0) := by
      refine q_fx.up ?_ (Or.inr (Or.inr (Or.inr ⟨rfl, rfl⟩)))
      have F1 : q_fx (x_uC n) m (q_up (q_up m2 145 1 0) 1 3 (m2 147 4)) := ((f.mono (fun c i z => Or.inl (Or.inl z))).up (Or.inl (Or.inr ⟨rfl, rfl⟩))).up (Or.inr (Or.inl ⟨rfl, rfl⟩))
      intro c i z
      rw [q_cp_c (fun y => z (Or.inr (Or.inr (Or.inl y))))]
      exact F1 c i z
    have nn := t_end_nn ok.1 (by decide : (0 : Int) ≤ 76)
    have he : t_end (m 188 14) 76 (t_all n m).2.2 = -1 := by
      rcases nn with nn | nn
      · exact nn.1
      · exfalso; unfold t_ans at e; rw [if_neg (by omega)] at e; omega
    have rd : ∀ c i, c ≠ 33 → c ≠ 12 → c ≠ 1 → c ≠ 145 → (q_up (q_cp (q_up (q_up m2 145 1 0) 1 3 (m2 147 4)) 148 0 12 0 36) 33 2 0) c i = m2 c i := fun c i a1 a2 a3 a4 => by rw [q_up_c a1, q_cp_c a2, q_up_c a3, q_up_c a4]
    obtain ⟨c1, c2, c3, c4⟩ := cg
    refine ⟨e, by rw [q_up_c (by decide), q_cp_c (by decide), q_up_c (by decide), q_up_s], gv, ok, F, fun y => absurd he y, fun _ => ⟨?_, fun i i0 i1 => ?_, fun d d0 d1 => ?_, fun j j0 j1 => ?_, q_up_s⟩⟩
    · rw [q_up_c (by decide), q_cp_c (by decide), q_up_s]; exact c1
    · rw [rd 2 i (by decide) (by decide) (by decide) (by decide), rd 3 i (by decide) (by decide) (by decide) (by decide), rd 4 i (by decide) (by decide) (by decide) (by decide), rd 10 i (by decide) (by decide) (by decide) (by decide), rd 11 i (by decide) (by decide) (by decide) (by decide)]
      exact c2 i i0 i1
    · rw [q_up_c (by decide), q_cp_s d0 d1, q_up_c (by decide), q_up_c (by decide)]; exact c3 d d0 d1
    · have w := c4 j j0 j1
      exact ⟨w.1.fr (rd 8 j (by decide) (by decide) (by decide) (by decide)) (rd 7 j (by decide) (by decide) (by decide) (by decide)) (fun i _ _ => rd 6 i (by decide) (by decide) (by decide) (by decide)), (rd 9 j (by decide) (by decide) (by decide) (by decide)).trans w.2⟩
