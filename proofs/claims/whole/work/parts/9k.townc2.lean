/-! ===== the class reads THE TOWN, line by line ===== -/
abbrev x_toC (n0 c i : Int) : Prop := (c = 145 ∧ 2 ≤ i ∧ i ≤ 4) ∨ (c = 147 ∧ i = 4) ∨ c = 148 ∨ (((2 ≤ c ∧ c ≤ 4) ∨ (7 ≤ c ∧ c ≤ 11)) ∧ n0 ≤ i) ∨ (c = 6 ∧ 60 * n0 ≤ i)
def c_G (n0 : Int) (m G : qm) : Prop := m 147 4 = G 7 0 ∧ (∀ i, 0 ≤ i → i < G 7 0 → m 2 i = G 0 i ∧ m 3 i = G 3 i ∧ m 4 i = G 4 i ∧ m 10 i = G 2 i ∧ m 11 i = G 5 i) ∧ (∀ d, 0 ≤ d → d < 36 → m 148 d = G 6 d) ∧ ∀ j, n0 ≤ j → j < G 7 0 → w_j m 5 j (G 1 j) (fun _ => G 3 j) ∧ m 9 j = 0
theorem c_G.fr {n0 : Int} {m m' G : qm} {X : Int → Int → Prop} (h : c_G n0 m G) (hf : q_fx X m m') (hd : ∀ c i, (c = 147 ∧ i = 4) ∨ (2 ≤ c ∧ c ≤ 4) ∨ (6 ≤ c ∧ c ≤ 11) ∨ c = 148 → ¬ X c i) : c_G n0 m' G := by
  have e : ∀ c i, (c = 147 ∧ i = 4) ∨ (2 ≤ c ∧ c ≤ 4) ∨ (6 ≤ c ∧ c ≤ 11) ∨ c = 148 → m' c i = m c i := fun c i z => hf c i (hd c i z)
  obtain ⟨a, b, c, d⟩ := h
  refine ⟨(e _ _ (by omega)).trans a, fun i i0 i1 => ?_, fun x x0 x1 => (e _ _ (by omega)).trans (c x x0 x1), fun j j0 j1 => ⟨(d j j0 j1).1.fo hf (fun c i z1 z2 => hd c i (by omega)), (e _ _ (by omega)).trans (d j j0 j1).2⟩⟩
  rw [e 2 i (by omega), e 3 i (by omega), e 4 i (by omega), e 10 i (by omega), e 11 i (by omega)]
  exact b i i0 i1
section TOWNC2
variable {b : Int} {m : qm} {S : Int → Int} {lm : Int} {s : a_R}
theorem sp_readDebtC (h : c_R m S lm s) : q_Ev yX10_readDebt cX10_readDebt 4 none 4 0 0 [(2, 147)] (q_sh0, q_rb b, m) (qK (q_rb b) (fun _ m' => c_R m' S lm (d_6 S lm s) ∧ ((d_6 S lm s).2 = -1 → ∃ m1, m' = q_up m1 148 (6 * d_a S lm s + d_b S lm s) (d_v S lm s) ∧ q_fx x_rC m m1) ∧ ((d_6 S lm s).2 ≠ -1 → q_fx x_rC m m'))) := by
  have ok := h.2.2.2.1
  refine q_enter (by decide +kernel) (by simp) (Nat.le_of_ble_eq_true rfl) ?_
  have at31 : ∀ m1 : qm, c_R m1 S lm (d_4 S lm s) → q_fx x_rC m m1 → q_At yX10_readDebt cX10_readDebt 4 none 4 0 0 (qK (q_rb b) (fun _ m' => c_R m' S lm (d_6 S lm s) ∧ ((d_6 S lm s).2 = -1 → ∃ m1, m' = q_up m1 148 (6 * d_a S lm s + d_b S lm s) (d_v S lm s) ∧ q_fx x_rC m m1) ∧ ((d_6 S lm s).2 ≠ -1 → q_fx x_rC m m'))) 31 [(2, 147), (0, d_a S lm s), (0, d_b S lm s), (4, 0)] [] (q_sh0, q_rb b, m1) := by
    intro m1 c f
    refine bkX10_readDebt_31 (P1 := fun _ m' => c_R m' S lm (d_5 S lm s) ∧ q_fx x_rC m m') (P2 := fun _ _ r m' => r = d_v S lm s ∧ c_R m' S lm (d_6 S lm s) ∧ q_fx x_rC m m') (P3 := fun _ _ _ m2 r m' => m' = m2 ∧ ((r = 1 ∧ (d_6 S lm s).2 = -1) ∨ (r = 0 ∧ (d_6 S lm s).2 ≠ -1))) ?_ ?_ ?_ ?_ ?_ ?_
    · exact (sp_needC c (by decide) (by decide)).post (fun _ _ y => ⟨y.1, f.tr y.2⟩)
    · rintro _ m2 ⟨c2, f2⟩ _
      refine (sp_numberC 3 (by decide) c2).post (fun _ _ y => ⟨y.1, ?_, f2.tr y.2.2⟩)
      have v := t_nm_v (S := S) (lm := lm) (k := 3) (s := d_5 S lm s) (by decide)
      unfold d_6 t_rn; rw [t_ck_in ⟨v.1, by omega⟩]; exact y.2.1
    · rintro _ _ - _ r3 m3 ⟨e3, c3, f3⟩ _
      exact sp_isFineC c3
    · rintro _ _ - _ r3 m3 ⟨e3, c3, f3⟩ _ r4 m4 ⟨rfl, g⟩ _ z
      have g := g.resolve_left (fun y => by omega)
      exact ⟨c3, fun y => absurd y g.2, fun _ => f3⟩
    · rintro _ _ - _ r3 m3 ⟨e3, c3, f3⟩ _ r4 m4 ⟨rfl, g⟩ _ z
      have g := g.resolve_right (fun y => by omega)
      have p := d_p ok g.2
      exact ⟨q_in_of (by omega) (by omega), q_in_of (by omega) (by omega), by omega, by omega⟩
    · rintro _ _ - _ r3 m3 ⟨e3, c3, f3⟩ _ r4 m4 ⟨rfl, g⟩ _ z
      have g := g.resolve_right (fun y => by omega)
      rw [e3]
      refine ⟨c3.fr (X := fun c _ => c = 148) (q_fx.rf.up rfl) (by omega), fun _ => ⟨m4, ?_, f3⟩, fun y => absurd g.2 y⟩
      rw [Int.mul_comm]
  refine bkX10_readDebt_0 (P2 := fun _ _ _ m' => c_R m' S lm (d_2 S lm s) ∧ q_fx x_rC m m') (P3 := fun _ _ _ _ r m' => r = d_b S lm s ∧ c_R m' S lm (d_3 S lm s) ∧ q_fx x_rC m m') (P5 := fun _ _ _ _ _ _ _ m' => c_R m' S lm (t_fl (d_3 S lm s) ((d_3 S lm s).1 - 1)) ∧ q_fx x_rC m m') (sp_readOwnerC h) ?_ ?_ ?_ ?_ ?_
  · rintro r1 m1 ⟨e1, c1, f1⟩ _
    exact (sp_needC c1 (by decide) (by decide)).post (fun _ _ y => ⟨y.1, f1.tr y.2⟩)
  · rintro r1 m1 - _ _ m2 ⟨c2, f2⟩ _
    exact (sp_readOwnerC c2).post (fun _ _ y => ⟨y.1, y.2.1, f2.tr y.2.2⟩)
  · rintro r1 m1 ⟨e1, -⟩ _ _ _ - _ r3 m3 ⟨e3, c3, f3⟩ _ z
    have := at31 m3 (by unfold d_4; rw [if_neg (fun y => z (by rw [e1, e3]; exact y.symm))]; exact c3) f3
    rw [e1, e3]; exact this
  · rintro r1 m1 ⟨e1, -⟩ _ _ _ - _ r3 m3 ⟨e3, c3, f3⟩ _ z
    exact (sp_failAtLastC c3).post (fun _ _ y => ⟨y.1, f3.tr y.2⟩)
  · rintro r1 m1 ⟨e1, -⟩ _ _ _ - _ r3 m3 ⟨e3, -⟩ _ z _ m5 ⟨c5, f5⟩ _
    have := at31 m5 (by unfold d_4; rw [if_pos (by rw [e1, e3] at z; exact z.symm)]; exact c5) f5
    rw [e1, e3]; exact this
theorem sp_lineC {n0 : Int} {u : qm × a_R} (h : c_R m S lm u.2) (hf : u.2.2 = -1) (gv : t_GV n0 u.1) (cg : c_G n0 m u.1) : q_Ev yX10_readLine cX10_readLine 1 none 5 0 0 [(2, 147)] (q_sh0, q_rb b, m) (qK (q_rb b) (fun _ m' => c_R m' S lm (t_line S lm u).2 ∧ c_G n0 m' (t_line S lm u).1 ∧ q_fx (x_toC n0) m m')) := by
  have ok := h.2.2.2.1
  obtain ⟨g0, g1, g2, -⟩ := gv
  have xr : ∀ c i, x_rC c i → x_toC n0 c i := by intro c i; unfold x_rC x_toC; omega
  have frG : ∀ {m1 m2 : qm} {G : qm}, c_G n0 m1 G → q_fx x_rC m1 m2 → c_G n0 m2 G := fun a f => a.fr f (by intro c i; unfold x_rC; omega)
  have fl : ∀ m' : qm, ¬ t_is S lm u.2 100 → (¬ t_dg S lm u.2 ∨ ¬ u.1 7 0 < 9) → c_R m' S lm (t_fl u.2 u.2.1) → q_fx x_rC m m' → c_R m' S lm (t_line S lm u).2 ∧ c_G n0 m' (t_line S lm u).1 ∧ q_fx (x_toC n0) m m' := by
    intro m' z1 z2 c f
    unfold t_line
    rw [if_neg z1]
    by_cases y : u.1 7 0 < 9
    · rw [if_pos y]
      have e := j_nd (He := u.1 4) (j := u.1 7 0) (z2.resolve_right (fun q => q y)) ok hf
      have nf : ¬ (t_fl u.2 u.2.1).2 = -1 := by rw [t_fl_ok hf]; have := ok.1; show ¬ u.2.1 = -1; omega
      refine ⟨?_, ?_, f.mono xr⟩
      · show c_R m' S lm (j_e S lm (u.1 4) (u.1 7 0) u.2)
        rw [e]; exact c
      · show c_G n0 m' (if (j_e S lm (u.1 4) (u.1 7 0) u.2).2 = -1 then _ else _)
        rw [e, if_neg nf]; exact frG cg f
    · rw [if_neg y]
      exact ⟨c, frG cg f, f.mono xr⟩
  refine q_enter (by decide +kernel) (by simp) (Nat.le_of_ble_eq_true rfl) ?_
  refine bkX10_readLine_0 (P3 := fun _ m1 r m' => m' = m1 ∧ ((r = 1 ∧ t_dg S lm u.2) ∨ (r = 0 ∧ ¬ t_dg S lm u.2))) (P5 := fun _ _ _ _ _ m' => c_R m' S lm (t_fl u.2 u.2.1) ∧ q_fx x_rC m m') (P7 := fun _ _ _ _ _ m' => c_R m' S lm (t_fl u.2 u.2.1) ∧ q_fx x_rC m m') (P8 := fun _ m1 _ _ _ m' => j_post S lm (u.1 4) (u.1 7 0) u.2 m1 m') (P9 := fun _ m1 _ m' => c_R m' S lm (d_6 S lm (u.2.1 + 1, u.2.2)) ∧ ((d_6 S lm (u.2.1 + 1, u.2.2)).2 = -1 → ∃ m2, m' = q_up m2 148 (6 * d_a S lm (u.2.1 + 1, u.2.2) + d_b S lm (u.2.1 + 1, u.2.2)) (d_v S lm (u.2.1 + 1, u.2.2)) ∧ q_fx x_rC m1 m2) ∧ ((d_6 S lm (u.2.1 + 1, u.2.2)).2 ≠ -1 → q_fx x_rC m1 m')) (sp_skipC h (by decide) (by decide)) ?_ ?_ ?_ ?_ ?_ ?_ ?_ ?_ ?_
  · rintro r1 m1 ⟨g, f⟩ _ z
    exact sp_seesDigitC (g.resolve_left (fun y => by omega)).2.2
  · rintro r1 m1 ⟨g, f⟩ _ z r3 m3 ⟨rfl, d⟩ _ y
    exact (sp_failHereC (g.resolve_left (fun y => by omega)).2.2).post (fun _ _ q => ⟨q.1, f.tr q.2⟩)
  · rintro r1 m1 ⟨g, f⟩ _ z r3 m3 ⟨rfl, d⟩ _ y r5 m5 q _
    exact fl m5 (g.resolve_left (fun y => by omega)).2.1 (Or.inl (d.resolve_left (fun y => by omega)).2) q.1 q.2
  · rintro r1 m1 ⟨g, f⟩ _ z r3 m3 ⟨rfl, d⟩ _ y w
    exact (sp_failHereC (g.resolve_left (fun y => by omega)).2.2).post (fun _ _ q => ⟨q.1, f.tr q.2⟩)
  · rintro r1 m1 ⟨g, f⟩ _ z r3 m3 ⟨rfl, d⟩ _ y w r5 m5 q _
    have e1 : m3 147 4 = u.1 7 0 := (f _ _ (by unfold x_rC; omega)).trans cg.1
    exact fl m5 (g.resolve_left (fun y => by omega)).2.1 (Or.inr (by omega)) q.1 q.2
  · rintro r1 m1 ⟨g, f⟩ _ z r3 m3 ⟨rfl, d⟩ _ y w
    have cg1 := frG cg f
    have e1 := cg1.1
    exact sp_readJarC (g.resolve_left (fun y => by omega)).2.2 cg1.1 (by omega) (fun i i0 i1 => (cg1.2.1 i i0 i1).2.2.1)
  · rintro r1 m1 ⟨g, f⟩ _ z r3 m3 ⟨rfl, d⟩ _ y w r8 m8 ⟨p1, p2, p3, p4⟩ _
    have cg1 := frG cg f
    have e1 := cg1.1
    have hlt : u.1 7 0 < 9 := by omega
    have xj : ∀ c i, x_jC (u.1 7 0) c i → x_toC n0 c i := by intro c i; unfold x_jC x_rC x_fC w_x x_toC; omega
    unfold t_line
    rw [if_neg (g.resolve_left (fun y => by omega)).2.1, if_pos hlt]
    refine ⟨p1, ?_, (f.mono xr).tr (p2.mono xj)⟩
    show c_G n0 m8 (if (j_e S lm (u.1 4) (u.1 7 0) u.2).2 = -1 then _ else _)
    by_cases q : (j_e S lm (u.1 4) (u.1 7 0) u.2).2 = -1
    · rw [if_pos q]
      obtain ⟨w1, w2, w3, w4, w5, w6, w7, w8⟩ := p4 q
      obtain ⟨s7, s0, s1, s2, s3, s4, s5⟩ := t_put_s (S := S) (lm := lm) (s := u.2) (G := u.1)
      obtain ⟨c1, c2, c3, c4⟩ := cg1
      have eo : ∀ c i, (c = 2 ∨ c = 3 ∨ c = 4 ∨ c = 10 ∨ c = 11) → i ≠ u.1 7 0 → m8 c i = m3 c i := fun c i a b => p2 c i (by unfold x_jC x_rC x_fC w_x; omega)
      refine ⟨by rw [s7]; exact w1, fun i i0 i1 => ?_, fun d d0 d1 => ?_, fun j j0 j1 => ?_⟩
      · by_cases hi : i = u.1 7 0
        · rw [hi, s0, s2, s3, s4, s5]; exact ⟨w2, w3, w4, w5, w6⟩
        · rw [t_put_o (by decide) hi, t_put_o (by decide) hi, t_put_o (by decide) hi, t_put_o (by decide) hi, t_put_o (by decide) hi, eo 2 i (by decide) hi, eo 3 i (by decide) hi, eo 4 i (by decide) hi, eo 10 i (by decide) hi, eo 11 i (by decide) hi]
          exact c2 i i0 (by omega)
      · rw [t_put_6, p2 148 d (by unfold x_jC x_rC x_fC w_x; omega)]; exact c3 d d0 d1
      · by_cases hj : j = u.1 7 0
        · rw [hj, s1, s3]; exact ⟨w7, w8⟩
        · rw [t_put_o (by decide) hj, t_put_o (by decide) hj]
          have k := c4 j j0 (by omega)
          exact ⟨k.1.fr (p2 8 j (by unfold x_jC x_rC x_fC w_x; omega)) (p2 7 j (by unfold x_jC x_rC x_fC w_x; omega)) (fun i a b => p2 6 i (by unfold x_jC x_rC x_fC w_x; omega)), (p2 9 j (by unfold x_jC x_rC x_fC w_x; omega)).trans k.2⟩
    · rw [if_neg q]
      exact frG cg1 (p3 q)
  · rintro r1 m1 ⟨g, f⟩ _ z
    exact sp_readDebtC (g.resolve_right (fun y => by omega)).2.2
  · rintro r1 m1 ⟨g, f⟩ _ z r9 m9 ⟨p1, p2, p3⟩ _
    have gg := g.resolve_right (fun y => by omega)
    have ok1 := ok.nx (S := S) gg.2.1.2.1
    have cg1 := frG cg f
    unfold t_line
    rw [if_pos gg.2.1]
    by_cases q : (d_6 S lm (u.2.1 + 1, u.2.2)).2 = -1
    · obtain ⟨m2, rfl, f2⟩ := p2 q
      refine ⟨p1, ?_, ((f.mono xr).tr (f2.mono xr)).up (by unfold x_toC; omega)⟩
      show c_G n0 _ (if (d_6 S lm (u.2.1 + 1, u.2.2)).2 = -1 then _ else _)
      rw [if_pos q]
      obtain ⟨c1, c2, c3, c4⟩ := (frG cg1 f2)
      refine ⟨by rw [q_up_c (by decide), q_up_c (by decide)]; exact c1, fun i i0 i1 => ?_, fun d d0 d1 => ?_, fun j j0 j1 => ?_⟩
      · rw [q_up_c (by decide)] at i1
        rw [q_up_c (by decide), q_up_c (by decide), q_up_c (by decide), q_up_c (by decide), q_up_c (by decide), q_up_c (by decide), q_up_c (by decide), q_up_c (by decide), q_up_c (by decide), q_up_c (by decide)]
        exact c2 i i0 i1
      · by_cases hd : d = 6 * d_a S lm (u.2.1 + 1, u.2.2) + d_b S lm (u.2.1 + 1, u.2.2)
        · rw [hd, q_up_s, q_up_s]
        · rw [q_up_i hd, q_up_i hd]; exact c3 d d0 d1
      · rw [q_up_c (by decide)] at j1
        have k := c4 j j0 j1
        rw [q_up_c (by decide), q_up_c (by decide), q_up_c (by decide)]
        exact ⟨k.1.fr (q_up_c (by decide)) (q_up_c (by decide)) (fun i a b => q_up_c (by decide)), k.2⟩
    · refine ⟨p1, ?_, (f.mono xr).tr ((p3 q).mono xr)⟩
      show c_G n0 _ (if (d_6 S lm (u.2.1 + 1, u.2.2)).2 = -1 then _ else _)
      rw [if_neg q]
      exact frG cg1 (p3 q)
end TOWNC2
