/-! ===== the class reads THE TOWN ===== -/
section TOWNC
variable {b : Int} {m : qm} {S : Int → Int} {lm : Int} {s : a_R}
theorem sp_failHereC (h : c_R m S lm s) : q_Ev yX6_failHere cX6_failHere 1 none 2 0 0 [(2, 145)] (q_sh0, q_rb b, m) (qK (q_rb b) (fun _ m' => c_R m' S lm (t_fl s s.1) ∧ q_fx x_rC m m')) := by
  have e3 := h.2.1
  obtain ⟨k1, k2, k3, -⟩ := h.2.2.2.1
  refine q_enter (by decide +kernel) (by simp) (Nat.le_of_ble_eq_true rfl) ?_
  refine bkX6_failHere_0 (P1 := fun _ m' => c_R m' S lm (t_fl s s.1) ∧ q_fx x_rC m m') ?_ (fun _ _ z _ => z)
  rw [e3]; exact sp_failAtC h (by omega) (by omega)
theorem sp_failAtLastC (h : c_R m S lm s) : q_Ev yX6_failAtLast cX6_failAtLast 1 none 2 0 0 [(2, 145)] (q_sh0, q_rb b, m) (qK (q_rb b) (fun _ m' => c_R m' S lm (t_fl s (s.1 - 1)) ∧ q_fx x_rC m m')) := by
  have e3 := h.2.1
  obtain ⟨k1, k2, k3, -⟩ := h.2.2.2.1
  refine q_enter (by decide +kernel) (by simp) (Nat.le_of_ble_eq_true rfl) ?_
  refine bkX6_failAtLast_0 (P1 := fun _ m' => c_R m' S lm (t_fl s (s.1 - 1)) ∧ q_fx x_rC m m') (q_in_of (by omega) (by omega)) ?_ (fun _ _ z _ => z)
  rw [e3]; exact sp_failAtC h (by omega) (by omega)
theorem sp_isFineC (h : c_R m S lm s) : q_Ev yX6_isFine cX6_isFine 1 (some .boolean) 1 0 0 [(2, 145)] (q_sh0, q_rb b, m) (qK (q_rb b) (fun r m' => m' = m ∧ ((r = 1 ∧ s.2 = -1) ∨ (r = 0 ∧ s.2 ≠ -1)))) := by
  have e4 := h.2.2.1
  refine q_enter (by decide +kernel) (by simp) (Nat.le_of_ble_eq_true rfl) ?_
  exact bkX6_isFine_0 (fun z => ⟨rfl, Or.inr ⟨rfl, by omega⟩⟩) (fun z => ⟨rfl, Or.inl ⟨rfl, by omega⟩⟩)
theorem sp_digit1C (h : c_R m S lm s) : q_Ev yX6_digit cX6_digit 2 (some .int) 2 0 0 [(2, 145)] (q_sh0, q_rb b, m) (qK (q_rb b) (fun r m' => r = (t_nm S lm 1 s).1 ∧ c_R m' S lm (t_nm S lm 1 s).2 ∧ q_fx x_rC m m')) := by
  refine (sp_digitC h).post ?_
  rintro r m' ⟨g, f⟩
  rcases g with ⟨d, e, c⟩ | ⟨d, e, c⟩
  · rw [t_nm_1 d]; exact ⟨e, c, f⟩
  · rw [t_nm_nd d]; exact ⟨e, c, f⟩
theorem sp_readOwnerC (h : c_R m S lm s) : q_Ev yX10_readOwner cX10_readOwner 2 (some .int) 3 0 0 [(2, 147)] (q_sh0, q_rb b, m) (qK (q_rb b) (fun r m' => r = (t_nm S lm 1 s).1 ∧ c_R m' S lm (t_rn S lm 0 5 1 s) ∧ q_fx x_rC m m')) := by
  have v := t_nm_v (S := S) (lm := lm) (k := 1) (s := s) (by decide)
  refine q_enter (by decide +kernel) (by simp) (Nat.le_of_ble_eq_true rfl) ?_
  refine bkX10_readOwner_0 (P3 := fun r1 m1 _ m3 => c_R m3 S lm (t_rn S lm 0 5 1 s) ∧ q_fx x_rC m m3) (sp_digit1C h) ?_ ?_ ?_
  · rintro r1 m1 ⟨e, c, f⟩ _ z
    refine ⟨e, ?_, f⟩
    unfold t_rn; rw [t_ck_in (by omega)]; exact c
  · rintro r1 m1 ⟨e, c, f⟩ _ z
    refine (sp_failAtLastC c).post (fun _ m3 y => ⟨?_, f.tr y.2⟩)
    unfold t_rn; rw [t_ck_out (by omega)]; exact y.1
  · rintro r1 m1 ⟨e, c, f⟩ _ z r3 m3 y _
    exact ⟨e, y⟩
theorem sp_readBelowC {j v : Int} {He : Int → Int} (h : c_R m S lm s) (hj : m 147 4 = j) (hj9 : j ≤ 9) (hH : ∀ i, 0 ≤ i → i < j → m 4 i = He i) : q_Ev yX10_readBelow cX10_readBelow 3 (some .int) 3 0 0 [(2, 147), (0, v)] (q_sh0, q_rb b, m) (qK (q_rb b) (fun r m' => r = (t_nm S lm 1 s).1 ∧ c_R m' S lm (t_bl He j v (t_nm S lm 1 s)) ∧ q_fx x_rC m m')) := by
  have v0 := t_nm_v (S := S) (lm := lm) (k := 1) (s := s) (by decide)
  refine q_enter (by decide +kernel) (by simp) (Nat.le_of_ble_eq_true rfl) ?_
  refine bkX10_readBelow_0 (P3 := fun r1 m1 _ m3 => c_R m3 S lm (t_bl He j v (t_nm S lm 1 s)) ∧ q_fx x_rC m m3) (P5 := fun r1 m1 _ m3 => c_R m3 S lm (t_bl He j v (t_nm S lm 1 s)) ∧ q_fx x_rC m m3) (sp_digit1C h) ?_ ?_ ?_ ?_ ?_ ?_
  · rintro r1 m1 ⟨e, c, f⟩ _ z
    rw [f 147 4 (by unfold x_rC; omega), hj] at z
    refine (sp_failAtLastC c).post (fun _ m3 y => ⟨?_, f.tr y.2⟩)
    unfold t_bl; rw [if_pos (Or.inl (by omega))]; exact y.1
  · rintro r1 m1 ⟨e, c, f⟩ _ z r3 m3 y _
    exact ⟨e, y⟩
  · rintro r1 m1 ⟨e, c, f⟩ _ z
    rw [f 147 4 (by unfold x_rC; omega), hj] at z
    omega
  · rintro r1 m1 ⟨e, c, f⟩ _ z y
    rw [f 147 4 (by unfold x_rC; omega), hj] at z
    rw [f 4 _ (by unfold x_rC; omega), hH _ (by omega) z] at y
    refine ⟨e, ?_, f⟩
    rw [e] at y z
    unfold t_bl; rw [if_neg (by omega)]; exact c
  · rintro r1 m1 ⟨e, c, f⟩ _ z y
    rw [f 147 4 (by unfold x_rC; omega), hj] at z
    rw [f 4 _ (by unfold x_rC; omega), hH _ (by omega) z] at y
    rw [e] at y z
    refine (sp_failAtLastC c).post (fun _ m3 q => ⟨?_, f.tr q.2⟩)
    unfold t_bl; rw [if_pos (Or.inr y)]; exact q.1
  · rintro r1 m1 ⟨e, c, f⟩ _ z y r5 m5 q _
    exact ⟨e, q⟩
abbrev x_fC (j c i : Int) : Prop := w_x 5 j c i ∨ (c = 9 ∧ i = j)
theorem sp_fillC {j v o : Int} (hj : m 147 4 = j) (hj0 : 0 ≤ j ∧ j < 9) (hv : 0 ≤ v ∧ v ≤ 60) : q_Ev yX10_fill cX10_fill 4 none 3 0 0 [(2, 147), (0, v), (0, o)] (q_sh0, q_rb b, m) (qK (q_rb b) (fun _ m' => w_j m' 5 j v (fun _ => o) ∧ m' 9 j = 0 ∧ q_fx (x_fC j) m m')) := by
  refine q_enter (by decide +kernel) (by simp) (Nat.le_of_ble_eq_true rfl) ?_
  have go : ∀ (d : Nat) (i : Int) (m' : qm), 0 ≤ i → i + d = v → w_j m' 5 j i (fun _ => o) → m' 9 j = 0 → q_fx (x_fC j) m m' → q_At yX10_fill cX10_fill 4 none 3 0 0 (qK (q_rb b) (fun _ m' => w_j m' 5 j v (fun _ => o) ∧ m' 9 j = 0 ∧ q_fx (x_fC j) m m')) 41 [(2, 147), (0, v), (0, o), (0, i)] [] (q_sh0, q_rb b, m') := by
    intro d
    induction d with
    | zero =>
      intro i m' i0 hi w h9 f
      have : i = v := by omega
      subst this
      exact bkX10_fill_41 (P2 := fun _ _ => True) (fun _ => ⟨w, h9, f⟩) (fun z => absurd z (by omega)) (fun z => absurd z (by omega)) (fun z => absurd z (by omega))
    | succ d ih =>
      intro i m' i0 hi w h9 f
      have e1 : m' 147 4 = j := (f 147 4 (by unfold x_fC w_x; omega)).trans hj
      refine bkX10_fill_41 (P2 := fun r m2 => w_j m2 5 j (i + 1) (fun k => if k = i then o else o) ∧ q_fx (w_x 5 j) m' m2) (fun z => absurd z (by omega)) (fun _ => ?_) (fun _ _ _ _ _ => q_in_of (by omega) (by omega)) ?_
      · rw [e1]; exact sp_putBehind q_st5 hj0 w (by omega)
      · rintro _ r2 m2 ⟨w2, f2⟩ _
        refine ih (i + 1) m2 (by omega) (by omega) (w2.en (fun k _ _ => by split <;> rfl)) ((f2 9 j (by unfold w_x; omega)).trans h9) (f.tr (f2.mono (fun c i z => Or.inl z)))
  refine bkX10_fill_0 (by omega) ?_
  rw [hj]
  refine go v.toNat 0 _ (by omega) (by omega) ⟨q_up_s, ?_, ?_, fun k k0 k1 => by omega⟩ ?_ (((q_fx.rf.up ?_).up ?_).up ?_)
  · rw [q_up_c (by decide)]; show 0 ≤ q_up (q_up m 9 j 0) 7 j 0 7 j; rw [q_up_s]; exact Int.le_refl 0
  · rw [q_up_c (by decide)]; show q_up (q_up m 9 j 0) 7 j 0 7 j < 60; rw [q_up_s]; decide
  · rw [q_up_c (by decide), q_up_c (by decide), q_up_s]
  · exact Or.inr ⟨rfl, rfl⟩
  · exact Or.inl (Or.inr ⟨Or.inl rfl, rfl⟩)
  · exact Or.inl (Or.inr ⟨Or.inr rfl, rfl⟩)
abbrev x_jC (j c i : Int) : Prop := x_rC c i ∨ (c = 147 ∧ i = 4) ∨ x_fC j c i ∨ ((c = 2 ∨ c = 3 ∨ c = 4 ∨ c = 10 ∨ c = 11) ∧ i = j)
def j_post (S : Int → Int) (lm : Int) (He : Int → Int) (j : Int) (s : a_R) (m m' : qm) : Prop := c_R m' S lm (j_e S lm He j s) ∧ q_fx (x_jC j) m m' ∧ ((j_e S lm He j s).2 ≠ -1 → q_fx x_rC m m') ∧ ((j_e S lm He j s).2 = -1 → m' 147 4 = j + 1 ∧ m' 2 j = j_v1 S lm s ∧ m' 3 j = j_v4 S lm s ∧ m' 4 j = j_v5 S lm s ∧ m' 10 j = j_v3 S lm s ∧ m' 11 j = j_v6 S lm s ∧ w_j m' 5 j (j_v2 S lm s) (fun _ => j_v4 S lm s) ∧ m' 9 j = 0)
theorem sp_readJarC {j : Int} {He : Int → Int} (h : c_R m S lm s) (hj : m 147 4 = j) (hj0 : 0 ≤ j ∧ j < 9) (hH : ∀ i, 0 ≤ i → i < j → m 4 i = He i) : q_Ev yX10_readJar cX10_readJar 7 none 4 0 0 [(2, 147)] (q_sh0, q_rb b, m) (qK (q_rb b) (fun _ m' => j_post S lm He j s m m')) := by
  have ok := h.2.2.2.1
  refine q_enter (by decide +kernel) (by simp) (Nat.le_of_ble_eq_true rfl) ?_
  have at131 : ∀ m1 : qm, c_R m1 S lm (j_e S lm He j s) → q_fx x_rC m m1 → q_At yX10_readJar cX10_readJar 7 none 4 0 0 (qK (q_rb b) (fun _ m' => j_post S lm He j s m m')) 131 [(2, 147), (0, j_v1 S lm s), (0, j_v2 S lm s), (0, j_v3 S lm s), (0, j_v4 S lm s), (0, j_v5 S lm s), (0, j_v6 S lm s)] [] (q_sh0, q_rb b, m1) := by
    intro m1 c f
    have e1 : m1 147 4 = j := (f _ _ (by unfold x_rC; omega)).trans hj
    refine bkX10_readJar_131 (P3 := fun _ m2 _ m' => w_j m' 5 j (j_v2 S lm s) (fun _ => j_v4 S lm s) ∧ m' 9 j = 0 ∧ q_fx (x_fC j) (q_up (q_up (q_up (q_up (q_up m1 2 j (j_v1 S lm s)) 3 j (j_v4 S lm s)) 4 j (j_v5 S lm s)) 10 j (j_v3 S lm s)) 11 j (j_v6 S lm s)) m') (sp_isFineC c) ?_ ?_ ?_ ?_ ?_
    · rintro r2 m2 ⟨rfl, g⟩ _ z
      have g := g.resolve_left (fun y => by omega)
      exact ⟨c, f.mono (fun c i z => Or.inl z), fun _ => f, fun y => absurd y g.2⟩
    · rintro r2 m2 ⟨rfl, g⟩ _ z
      rw [e1]; exact hj0
    · rintro r2 m2 ⟨rfl, g⟩ _ z
      have g := g.resolve_right (fun y => by omega)
      have p := j_p ok g.2
      rw [e1]
      refine sp_fillC ?_ hj0 (by omega)
      rw [q_up_c (by decide), q_up_c (by decide), q_up_c (by decide), q_up_c (by decide), q_up_c (by decide)]; exact e1
    · rintro r2 m2 ⟨rfl, g⟩ _ z r3 m3 ⟨w, h9, f3⟩ _
      have e3 : m3 147 4 = j := by
        rw [f3 _ _ (by unfold x_fC w_x; omega), q_up_c (by decide), q_up_c (by decide), q_up_c (by decide), q_up_c (by decide), q_up_c (by decide)]; exact e1
      rw [e3]; exact q_in_of (by omega) (by omega)
    · rintro r2 m2 ⟨rfl, g⟩ _ z r3 m3 ⟨w, h9, f3⟩ _
      have g := g.resolve_right (fun y => by omega)
      have e3 : m3 147 4 = j := by
        rw [f3 _ _ (by unfold x_fC w_x; omega), q_up_c (by decide), q_up_c (by decide), q_up_c (by decide), q_up_c (by decide), q_up_c (by decide)]; exact e1
      have F0 : q_fx (fun c i => (c = 147 ∧ i = 4) ∨ x_fC j c i ∨ ((c = 2 ∨ c = 3 ∨ c = 4 ∨ c = 10 ∨ c = 11) ∧ i = j)) m2 (q_up m3 147 4 (m3 147 4 + 1)) := by
        refine q_fx.up ?_ (Or.inl ⟨rfl, rfl⟩)
        refine q_fx.tr ?_ (f3.mono (fun c i z => Or.inr (Or.inl z)))
        refine ((((q_fx.rf.up ?_).up ?_).up ?_).up ?_).up ?_ <;> exact Or.inr (Or.inr ⟨by decide, rfl⟩)
      have F : q_fx (x_jC j) m2 (q_up m3 147 4 (m3 147 4 + 1)) := F0.mono (fun c i z => Or.inr z)
      refine ⟨c.fr F0 (by intro c i; unfold x_fC w_x; omega) , (f.mono (fun c i z => Or.inl z)).tr F, fun y => absurd g.2 y, fun _ => ⟨by rw [q_up_s, e3], ?_, ?_, ?_, ?_, ?_, ?_, ?_⟩⟩
      · rw [q_up_c (by decide), f3 2 _ (by unfold x_fC w_x; omega), q_up_c (by decide), q_up_c (by decide), q_up_c (by decide), q_up_c (by decide), q_up_s]
      · rw [q_up_c (by decide), f3 3 _ (by unfold x_fC w_x; omega), q_up_c (by decide), q_up_c (by decide), q_up_c (by decide), q_up_s]
      · rw [q_up_c (by decide), f3 4 _ (by unfold x_fC w_x; omega), q_up_c (by decide), q_up_c (by decide), q_up_s]
      · rw [q_up_c (by decide), f3 10 _ (by unfold x_fC w_x; omega), q_up_c (by decide), q_up_s]
      · rw [q_up_c (by decide), f3 11 _ (by unfold x_fC w_x; omega), q_up_s]
      · exact w.fr (q_up_c (by decide)) (q_up_c (by decide)) (fun i _ _ => q_up_c (by decide))
      · rw [q_up_c (by decide)]; exact h9
  have at57 : ∀ m1 : qm, c_R m1 S lm (j_3 S lm s) → q_fx x_rC m m1 → q_At yX10_readJar cX10_readJar 7 none 4 0 0 (qK (q_rb b) (fun _ m' => j_post S lm He j s m m')) 57 [(2, 147), (0, j_v1 S lm s), (0, j_v2 S lm s), (4, 0), (4, 0), (4, 0), (4, 0)] [] (q_sh0, q_rb b, m1) := by
    intro m1 c f
    refine bkX10_readJar_57 (P1 := fun _ m' => c_R m' S lm (j_4 S lm s) ∧ q_fx x_rC m m') (P2 := fun _ _ r m' => r = j_v3 S lm s ∧ c_R m' S lm (j_5 S lm s) ∧ q_fx x_rC m m') (P3 := fun _ _ _ _ _ m' => c_R m' S lm (j_6 S lm s) ∧ q_fx x_rC m m') (P4 := fun _ _ _ _ _ _ r m' => r = j_v4 S lm s ∧ c_R m' S lm (j_7 S lm s) ∧ q_fx x_rC m m') (P5 := fun _ _ _ _ _ _ _ _ _ m' => c_R m' S lm (j_8 S lm s) ∧ q_fx x_rC m m') (P6 := fun _ _ _ _ _ _ _ _ _ _ r m' => r = j_v5 S lm s ∧ c_R m' S lm (j_9 S lm s) ∧ q_fx x_rC m m') (P7 := fun _ _ _ _ _ _ _ _ _ _ _ _ r m' => ((r = 1 ∧ t_is S lm (j_9 S lm s) 62 ∧ c_R m' S lm (j_a S lm s)) ∨ (r = 0 ∧ ¬ t_is S lm (j_9 S lm s) 62 ∧ c_R m' S lm (j_9 S lm s))) ∧ q_fx x_rC m m') (P9 := fun _ _ _ _ _ _ _ _ _ _ _ _ _ _ r m' => r = (t_nm S lm 1 (j_a S lm s)).1 ∧ c_R m' S lm (t_bl He j (j_v5 S lm s) (t_nm S lm 1 (j_a S lm s))) ∧ q_fx x_rC m m') ?_ ?_ ?_ ?_ ?_ ?_ ?_ ?_ ?_ ?_
    · exact (sp_needC c (by decide) (by decide)).post (fun _ _ y => ⟨y.1, f.tr y.2⟩)
    · rintro _ m2 ⟨c2, f2⟩ _
      refine (sp_digit1C c2).post (fun _ _ y => ⟨y.1, ?_, f2.tr y.2.2⟩)
      have v := t_nm_v (S := S) (lm := lm) (k := 1) (s := j_4 S lm s) (by decide)
      unfold j_5 t_rn; rw [t_ck_in ⟨v.1, by omega⟩]; exact y.2.1
    · rintro _ _ - _ r3 m3 ⟨e3, c3, f3⟩ _
      exact (sp_needC c3 (by decide) (by decide)).post (fun _ _ y => ⟨y.1, f3.tr y.2⟩)
    · rintro _ _ - _ _ _ - _ r4 m4 ⟨c4, f4⟩ _
      exact (sp_readOwnerC c4).post (fun _ _ y => ⟨y.1, y.2.1, f4.tr y.2.2⟩)
    · rintro _ _ - _ _ _ - _ _ _ - _ r5 m5 ⟨e5, c5, f5⟩ _
      exact (sp_needC c5 (by decide) (by decide)).post (fun _ _ y => ⟨y.1, f5.tr y.2⟩)
    · rintro _ _ - _ _ _ - _ _ _ - _ _ _ - _ r6 m6 ⟨c6, f6⟩ _
      refine (sp_digit1C c6).post (fun _ _ y => ⟨y.1, ?_, f6.tr y.2.2⟩)
      have v := t_nm_v (S := S) (lm := lm) (k := 1) (s := j_8 S lm s) (by decide)
      unfold j_9 t_rn; rw [t_ck_in ⟨v.1, by omega⟩]; exact y.2.1
    · rintro _ _ - _ _ _ - _ _ _ - _ _ _ - _ _ _ - _ r7 m7 ⟨e7, c7, f7⟩ _
      exact (sp_skipC c7 (by decide) (by decide)).post (fun _ _ y => ⟨y.1, f7.tr y.2⟩)
    · rintro _ _ - _ r3 _ ⟨e3, -⟩ _ _ _ - _ r5 _ ⟨e5, -⟩ _ _ _ - _ r7 _ ⟨e7, -⟩ _ r8 m8 ⟨g, f8⟩ _ z
      have g := g.resolve_left (fun y => by omega)
      have := at131 m8 (by unfold j_e; rw [if_neg g.2.1]; exact g.2.2) f8
      rw [e3, e5, e7]
      have e6 : j_v6 S lm s = -1 := by unfold j_v6; rw [if_neg g.2.1]
      rw [e6] at this
      exact this
    · rintro _ _ - _ r3 _ ⟨e3, -⟩ _ _ _ - _ r5 _ ⟨e5, -⟩ _ _ _ - _ r7 _ ⟨e7, -⟩ _ r8 m8 ⟨g, f8⟩ _ z
      have g := g.resolve_right (fun y => by omega)
      rw [e7]
      exact (sp_readBelowC (j := j) (He := He) g.2.2 ((f8 _ _ (by unfold x_rC; omega)).trans hj) (by omega) (fun i i0 i1 => (f8 _ _ (by unfold x_rC; omega)).trans (hH i i0 i1))).post (fun _ _ y => ⟨y.1, y.2.1, f8.tr y.2.2⟩)
    · rintro _ _ - _ r3 _ ⟨e3, -⟩ _ _ _ - _ r5 _ ⟨e5, -⟩ _ _ _ - _ r7 _ ⟨e7, -⟩ _ r8 m8 ⟨g, f8⟩ _ z r9 m9 ⟨e9, c9, f9⟩ _
      have g := g.resolve_right (fun y => by omega)
      have := at131 m9 (by unfold j_e; rw [if_pos g.2.1]; exact c9) f9
      rw [e3, e5, e7, e9]
      have e6 : j_v6 S lm s = (t_nm S lm 1 (j_a S lm s)).1 := by unfold j_v6; rw [if_pos g.2.1]
      rw [e6] at this
      exact this
  have at27 : ∀ m1 : qm, c_R m1 S lm (j_1 S lm s) → q_fx x_rC m m1 → q_At yX10_readJar cX10_readJar 7 none 4 0 0 (qK (q_rb b) (fun _ m' => j_post S lm He j s m m')) 27 [(2, 147), (0, j_v1 S lm s), (4, 0), (4, 0), (4, 0), (4, 0), (4, 0)] [] (q_sh0, q_rb b, m1) := by
    intro m1 c f
    have v := t_nm_v (S := S) (lm := lm) (k := 2) (s := j_2 S lm s) (by decide)
    refine bkX10_readJar_27 (P1 := fun _ m' => c_R m' S lm (j_2 S lm s) ∧ q_fx x_rC m m') (P2 := fun _ _ r m' => r = j_v2 S lm s ∧ c_R m' S lm (t_nm S lm 2 (j_2 S lm s)).2 ∧ q_fx x_rC m m') (P4 := fun _ _ _ _ _ m' => c_R m' S lm (j_3 S lm s) ∧ q_fx x_rC m m') ?_ ?_ ?_ ?_ ?_
    · exact (sp_needC c (by decide) (by decide)).post (fun _ _ y => ⟨y.1, f.tr y.2⟩)
    · rintro _ m2 ⟨c2, f2⟩ _
      exact (sp_numberC 2 (by decide) c2).post (fun _ _ y => ⟨y.1, y.2.1, f2.tr y.2.2⟩)
    · rintro _ _ - _ r3 m3 ⟨e3, c3, f3⟩ _ z
      rw [e3] at z ⊢
      refine at57 m3 ?_ f3
      unfold j_3 t_rn; rw [t_ck_in (hi := (t_nm S lm 2 s).1) ⟨v.1, z⟩]; exact c3
    · rintro _ _ - _ r3 m3 ⟨e3, c3, f3⟩ _ z
      rw [e3] at z
      refine (sp_failAtLastC c3).post (fun _ _ y => ⟨?_, f3.tr y.2⟩)
      unfold j_3 t_rn; rw [t_ck_out (fun q => by have := q.2; unfold j_v1 j_v2 at z; omega)]; exact y.1
    · rintro _ _ - _ r3 m3 ⟨e3, c3, f3⟩ _ z r4 m4 ⟨c4, f4⟩ _
      rw [e3]
      exact at57 m4 c4 f4
  refine bkX10_readJar_0 (P3 := fun _ _ _ m' => c_R m' S lm (j_1 S lm s) ∧ q_fx x_rC m m') (P5 := fun _ _ _ m' => c_R m' S lm (j_1 S lm s) ∧ q_fx x_rC m m') (sp_numberC 2 (by decide) h) ?_ ?_ ?_ ?_ ?_
  · rintro r1 m1 ⟨e, c, f⟩ _ z
    refine (sp_failAtLastC c).post (fun _ _ y => ⟨?_, f.tr y.2⟩)
    unfold j_1 t_rn; rw [t_ck_out (by omega)]; exact y.1
  · rintro r1 m1 ⟨e, c, f⟩ _ z r3 m3 y _
    rw [e]; exact at27 m3 y.1 y.2
  · rintro r1 m1 ⟨e, c, f⟩ _ z1 z2
    rw [e] at z1 z2 ⊢
    refine at27 m1 ?_ f
    unfold j_1 t_rn; rw [t_ck_in ⟨z1, z2⟩]; exact c
  · rintro r1 m1 ⟨e, c, f⟩ _ z1 z2
    refine (sp_failAtLastC c).post (fun _ _ y => ⟨?_, f.tr y.2⟩)
    unfold j_1 t_rn; rw [t_ck_out (by omega)]; exact y.1
  · rintro r1 m1 ⟨e, c, f⟩ _ z1 z2 r3 m3 y _
    rw [e]; exact at27 m3 y.1 y.2
end TOWNC
