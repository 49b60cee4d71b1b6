/-! ===== the reference reads THE TOWN ===== -/
section TOWNR
variable {b : Int} {m : qm} {S : Int → Int} {lm : Int} {s : a_R}
theorem sp_faultFl {p : Int} (h : m 188 22 ≠ -1) : q_Ev yX12_fault cX12_fault 2 none 2 0 0 [(2, 188), (0, p)] (q_sh0, q_rb b, m) (qK (q_rb b) (fun _ m' => m' = m)) := by
  refine q_enter (by decide +kernel) (by simp) (Nat.le_of_ble_eq_true rfl) ?_
  exact bkX12_fault_0 (fun y => absurd y h) (fun _ => rfl)
theorem sp_numM {lo hi : Int} (k : Nat) (hk : 1 ≤ k ∧ k ≤ 3) (h : r_R b m S lm s) : q_Ev yX12_number cX12_number 6 (some .int) 3 0 0 [(2, 188), (0, (k : Int)), (0, lo), (0, hi)] (q_sh0, q_rb b, m) (qK (q_rb b) (fun r m' => r_R b m' S lm (t_rn S lm lo hi k s) ∧ ((t_rn S lm lo hi k s).2 = -1 → r = (t_nm S lm k s).1) ∧ q_fx x_rM m m')) := by
  refine (sp_numberM k hk h).post ?_
  rintro r m' ⟨c, e, f⟩
  rw [t_rn_if] at c e
  exact ⟨c, fun z => by rw [e, if_pos z], f⟩
abbrev x_jM (j c i : Int) : Prop := x_rM c i ∨ ((189 ≤ c ∧ c ≤ 194) ∧ i = j)
theorem t_rn_s {lo hi : Int} {k : Nat} (ok : t_ok lm s) (h : (t_rn S lm lo hi k s).2 = -1) : s.2 = -1 := (t_rn_p ok h).1.1
theorem t_nd_s {ch : Int} (ok : t_ok lm s) (h : (t_nd S lm ch s).2 = -1) : s.2 = -1 := (t_nd_p ok h).1.1
theorem sp_readJarM {j : Int} {He : Int → Int} (h : r_R b m S lm s) (hb : b = 198) (hj0 : 0 ≤ j ∧ j < 9) (hH : ∀ i, 0 ≤ i → i < j → m 193 i = He i) : q_Ev yX12_readJar cX12_readJar 3 none 4 0 0 [(2, 188), (0, j)] (q_sh0, q_rb b, m) (qK (q_rb b) (fun _ m' => r_R b m' S lm (j_e S lm He j s) ∧ q_fx (x_jM j) m m' ∧ ((j_e S lm He j s).2 = -1 → m' 189 j = j_v1 S lm s ∧ m' 190 j = j_v2 S lm s ∧ m' 191 j = j_v3 S lm s ∧ m' 192 j = j_v4 S lm s ∧ m' 193 j = j_v5 S lm s ∧ m' 194 j = j_v6 S lm s))) := by
  have ok := h.2.2.2.1
  have xr : ∀ c i, x_rM c i → x_jM j c i := fun c i z => Or.inl z
  have fr : ∀ {m1 : qm} {s1 : a_R} {c v : Int}, 189 ≤ c → c ≤ 194 → r_R b m1 S lm s1 → r_R b (q_up m1 c j v) S lm s1 := fun {m1 s1 c v} z1 z2 r => r.fr (X := fun c' _ => c' = c) (q_fx.rf.up rfl) (fun c' i y => by omega)
  have s2 : ∀ z : (j_2 S lm s).2 = -1, (j_1 S lm s).2 = -1 := fun z => t_nd_s (j_ok1 ok) z
  have s3 : ∀ z : (j_3 S lm s).2 = -1, (j_2 S lm s).2 = -1 := fun z => t_rn_s (j_ok2 ok) z
  have s4 : ∀ z : (j_4 S lm s).2 = -1, (j_3 S lm s).2 = -1 := fun z => t_nd_s (j_ok3 ok) z
  have s5 : ∀ z : (j_5 S lm s).2 = -1, (j_4 S lm s).2 = -1 := fun z => t_rn_s (j_ok4 ok) z
  have s6 : ∀ z : (j_6 S lm s).2 = -1, (j_5 S lm s).2 = -1 := fun z => t_nd_s (j_ok5 ok) z
  have s7 : ∀ z : (j_7 S lm s).2 = -1, (j_6 S lm s).2 = -1 := fun z => t_rn_s (j_ok6 ok) z
  have s8 : ∀ z : (j_8 S lm s).2 = -1, (j_7 S lm s).2 = -1 := fun z => t_nd_s (j_ok7 ok) z
  have s9 : ∀ z : (j_9 S lm s).2 = -1, (j_8 S lm s).2 = -1 := fun z => t_rn_s (j_ok8 ok) z
  -- what holds behind the ninth thing
  let D9 : qm → Prop := fun m' => (j_9 S lm s).2 = -1 → m' 189 j = j_v1 S lm s ∧ m' 190 j = j_v2 S lm s ∧ m' 191 j = j_v3 S lm s ∧ m' 192 j = j_v4 S lm s ∧ m' 193 j = j_v5 S lm s
  have D9fr : ∀ {m1 m2 : qm} {X : Int → Int → Prop}, D9 m1 → q_fx X m1 m2 → (∀ c i, 189 ≤ c → c ≤ 193 → ¬ X c i) → D9 m2 := by
    intro m1 m2 X d f x z
    obtain ⟨a, b, c, e, g⟩ := d z
    rw [f 189 j (x _ _ (by decide) (by decide)), f 190 j (x _ _ (by decide) (by decide)), f 191 j (x _ _ (by decide) (by decide)), f 192 j (x _ _ (by decide) (by decide)), f 193 j (x _ _ (by decide) (by decide))]
    exact ⟨a, b, c, e, g⟩
  refine q_enter (by decide +kernel) (by simp) (Nat.le_of_ble_eq_true rfl) ?_
  refine bkX12_readJar_0 (P1 := fun r m' => r_R b m' S lm (j_1 S lm s) ∧ ((j_1 S lm s).2 = -1 → r = j_v1 S lm s) ∧ q_fx (x_jM j) m m')
    (P2 := fun _ _ _ m' => r_R b m' S lm (j_2 S lm s) ∧ ((j_2 S lm s).2 = -1 → m' 189 j = j_v1 S lm s) ∧ q_fx (x_jM j) m m')
    (P3 := fun _ _ _ _ r m' => r_R b m' S lm (j_3 S lm s) ∧ ((j_3 S lm s).2 = -1 → m' 189 j = j_v1 S lm s ∧ r = j_v2 S lm s) ∧ q_fx (x_jM j) m m')
    (P4 := fun _ _ _ _ _ _ _ m' => r_R b m' S lm (j_4 S lm s) ∧ ((j_4 S lm s).2 = -1 → m' 189 j = j_v1 S lm s ∧ m' 190 j = j_v2 S lm s) ∧ q_fx (x_jM j) m m')
    (P5 := fun _ _ _ _ _ _ _ _ r m' => r_R b m' S lm (j_5 S lm s) ∧ ((j_5 S lm s).2 = -1 → m' 189 j = j_v1 S lm s ∧ m' 190 j = j_v2 S lm s ∧ r = j_v3 S lm s) ∧ q_fx (x_jM j) m m')
    (P6 := fun _ _ _ _ _ _ _ _ _ _ _ m' => r_R b m' S lm (j_6 S lm s) ∧ ((j_6 S lm s).2 = -1 → m' 189 j = j_v1 S lm s ∧ m' 190 j = j_v2 S lm s ∧ m' 191 j = j_v3 S lm s) ∧ q_fx (x_jM j) m m')
    (P7 := fun _ _ _ _ _ _ _ _ _ _ _ _ r m' => r_R b m' S lm (j_7 S lm s) ∧ ((j_7 S lm s).2 = -1 → m' 189 j = j_v1 S lm s ∧ m' 190 j = j_v2 S lm s ∧ m' 191 j = j_v3 S lm s ∧ r = j_v4 S lm s) ∧ q_fx (x_jM j) m m')
    (P8 := fun _ _ _ _ _ _ _ _ _ _ _ _ _ _ _ m' => r_R b m' S lm (j_8 S lm s) ∧ ((j_8 S lm s).2 = -1 → m' 189 j = j_v1 S lm s ∧ m' 190 j = j_v2 S lm s ∧ m' 191 j = j_v3 S lm s ∧ m' 192 j = j_v4 S lm s) ∧ q_fx (x_jM j) m m')
    (P9 := fun _ _ _ _ _ _ _ _ _ _ _ _ _ _ _ _ r m' => r_R b m' S lm (j_9 S lm s) ∧ ((j_9 S lm s).2 = -1 → m' 189 j = j_v1 S lm s ∧ m' 190 j = j_v2 S lm s ∧ m' 191 j = j_v3 S lm s ∧ m' 192 j = j_v4 S lm s ∧ r = j_v5 S lm s) ∧ q_fx (x_jM j) m m')
    (P10 := fun _ _ _ _ _ _ _ _ _ _ _ _ _ _ _ _ _ _ r m' => ((r = 1 ∧ t_is S lm (j_9 S lm s) 62 ∧ r_R b m' S lm (j_a S lm s)) ∨ (r = 0 ∧ ¬ t_is S lm (j_9 S lm s) 62 ∧ r_R b m' S lm (j_9 S lm s))) ∧ (D9 m' ∧ m' 194 j = -1) ∧ q_fx (x_jM j) m m')
    (P12 := fun _ _ _ _ _ _ _ _ _ _ _ _ _ _ _ _ _ _ _ _ r m' => r_R b m' S lm (t_nm S lm 1 (j_a S lm s)).2 ∧ ((t_nm S lm 1 (j_a S lm s)).2.2 = -1 → r = (t_nm S lm 1 (j_a S lm s)).1) ∧ D9 m' ∧ q_fx (x_jM j) m m')
    (P15 := fun _ _ _ _ _ _ _ _ _ _ _ _ _ _ _ _ _ _ _ _ _ _ _ m' => r_R b m' S lm (t_fl (t_nm S lm 1 (j_a S lm s)).2 ((t_nm S lm 1 (j_a S lm s)).2.1 - 1)) ∧ D9 m' ∧ q_fx (x_jM j) m m')
    (P17 := fun _ _ _ _ _ _ _ _ _ _ _ _ _ _ _ _ _ _ _ _ _ _ _ m' => r_R b m' S lm (t_fl (t_nm S lm 1 (j_a S lm s)).2 ((t_nm S lm 1 (j_a S lm s)).2.1 - 1)) ∧ D9 m' ∧ q_fx (x_jM j) m m')
    ?_ ?_ ?_ ?_ ?_ ?_ ?_ ?_ ?_ ?_ ?_ ?_ ?_ ?_ ?_ ?_ ?_ ?_ ?_ ?_ ?_ ?_
  · exact (sp_numM 2 (by decide) h).post (fun _ _ y => ⟨y.1, y.2.1, y.2.2.mono xr⟩)
  · rintro _ _ - _; exact hj0
  · rintro r1 m1 ⟨c1, e1, f1⟩ _
    refine (sp_needM (fr (by decide) (by decide) c1) (by decide)).post (fun _ m2 y => ⟨y.1, fun z => ?_, (f1.up (Or.inr ⟨by decide, rfl⟩)).tr (y.2.mono xr)⟩)
    rw [y.2 189 j (by unfold x_rM; omega), q_up_s]; exact e1 (s2 z)
  · rintro _ _ - _ r2 m2 ⟨c2, e2, f2⟩ _
    by_cases z : (j_2 S lm s).2 = -1
    · rw [e2 z]
      exact (sp_numM 2 (by decide) c2).post (fun _ m3 y => ⟨y.1, fun z3 => ⟨(y.2.2 189 j (by unfold x_rM; omega)).trans (e2 z), y.2.1 z3⟩, f2.tr (y.2.2.mono xr)⟩)
    · refine (sp_numM 2 (by decide) c2).post (fun _ m3 y => ⟨?_, fun z3 => absurd (s3 z3) z, f2.tr (y.2.2.mono xr)⟩)
      have q := y.1
      rw [t_rn_fl z] at q
      unfold j_3; rw [t_rn_fl z]; exact q
  · rintro _ _ - _ _ _ - _ r3 m3 ⟨c3, e3, f3⟩ _
    refine (sp_needM (fr (by decide) (by decide) c3) (by decide)).post (fun _ m4 y => ⟨y.1, fun z => ?_, (f3.up (Or.inr ⟨by decide, rfl⟩)).tr (y.2.mono xr)⟩)
    rw [y.2 189 j (by unfold x_rM; omega), y.2 190 j (by unfold x_rM; omega), q_up_s, q_up_c (by decide)]; exact e3 (s4 z)
  · rintro _ _ - _ _ _ - _ _ _ - _ r4 m4 ⟨c4, e4, f4⟩ _
    refine (sp_numM 1 (by decide) c4).post (fun _ m5 y => ⟨y.1, fun z => ?_, f4.tr (y.2.2.mono xr)⟩)
    rw [y.2.2 189 j (by unfold x_rM; omega), y.2.2 190 j (by unfold x_rM; omega)]
    exact ⟨(e4 (s5 z)).1, (e4 (s5 z)).2, y.2.1 z⟩
  · rintro _ _ - _ _ _ - _ _ _ - _ _ _ - _ r5 m5 ⟨c5, e5, f5⟩ _
    refine (sp_needM (fr (by decide) (by decide) c5) (by decide)).post (fun _ m6 y => ⟨y.1, fun z => ?_, (f5.up (Or.inr ⟨by decide, rfl⟩)).tr (y.2.mono xr)⟩)
    rw [y.2 189 j (by unfold x_rM; omega), y.2 190 j (by unfold x_rM; omega), y.2 191 j (by unfold x_rM; omega), q_up_s, q_up_c (by decide), q_up_c (by decide)]; exact e5 (s6 z)
  · rintro _ _ - _ _ _ - _ _ _ - _ _ _ - _ _ _ - _ r6 m6 ⟨c6, e6, f6⟩ _
    refine (sp_numM 1 (by decide) c6).post (fun _ m7 y => ⟨y.1, fun z => ?_, f6.tr (y.2.2.mono xr)⟩)
    rw [y.2.2 189 j (by unfold x_rM; omega), y.2.2 190 j (by unfold x_rM; omega), y.2.2 191 j (by unfold x_rM; omega)]
    exact ⟨(e6 (s7 z)).1, (e6 (s7 z)).2.1, (e6 (s7 z)).2.2, y.2.1 z⟩
  · rintro _ _ - _ _ _ - _ _ _ - _ _ _ - _ _ _ - _ _ _ - _ r7 m7 ⟨c7, e7, f7⟩ _
    refine (sp_needM (fr (by decide) (by decide) c7) (by decide)).post (fun _ m8 y => ⟨y.1, fun z => ?_, (f7.up (Or.inr ⟨by decide, rfl⟩)).tr (y.2.mono xr)⟩)
    rw [y.2 189 j (by unfold x_rM; omega), y.2 190 j (by unfold x_rM; omega), y.2 191 j (by unfold x_rM; omega), y.2 192 j (by unfold x_rM; omega), q_up_s, q_up_c (by decide), q_up_c (by decide), q_up_c (by decide)]; exact e7 (s8 z)
  · rintro _ _ - _ _ _ - _ _ _ - _ _ _ - _ _ _ - _ _ _ - _ _ _ - _ r8 m8 ⟨c8, e8, f8⟩ _
    refine (sp_numM 1 (by decide) c8).post (fun _ m9 y => ⟨y.1, fun z => ?_, f8.tr (y.2.2.mono xr)⟩)
    rw [y.2.2 189 j (by unfold x_rM; omega), y.2.2 190 j (by unfold x_rM; omega), y.2.2 191 j (by unfold x_rM; omega), y.2.2 192 j (by unfold x_rM; omega)]
    exact ⟨(e8 (s9 z)).1, (e8 (s9 z)).2.1, (e8 (s9 z)).2.2.1, (e8 (s9 z)).2.2.2, y.2.1 z⟩
  · rintro _ _ - _ _ _ - _ _ _ - _ _ _ - _ _ _ - _ _ _ - _ _ _ - _ _ _ - _ r9 m9 ⟨c9, e9, f9⟩ _
    refine (sp_passesM (fr (by decide) (by decide) (fr (by decide) (by decide) c9)) (by decide)).post (fun _ m10 y => ⟨y.1, ⟨D9fr (X := x_rM) (m1 := q_up (q_up m9 193 j r9) 194 j (-1)) (fun z => ?_) y.2 (by intro c i; unfold x_rM; omega), ?_⟩, ((f9.up (Or.inr ⟨by decide, rfl⟩)).up (Or.inr ⟨by decide, rfl⟩)).tr (y.2.mono xr)⟩)
    · rw [q_up_c (by decide), q_up_c (by decide), q_up_c (by decide), q_up_c (by decide), q_up_c (by decide), q_up_c (by decide), q_up_c (by decide), q_up_c (by decide), q_up_c (c' := 193) (c := 194) (by decide), q_up_s]; exact e9 z
    · rw [y.2 194 j (by unfold x_rM; omega), q_up_s]
  · rintro _ _ - _ _ _ - _ _ _ - _ _ _ - _ _ _ - _ _ _ - _ _ _ - _ _ _ - _ _ _ - _ r10 m10 ⟨c10, ⟨d10, e10⟩, f10⟩ _ z
    have c10 := c10.resolve_right (fun y => by omega)
    have v := t_nm_v (S := S) (lm := lm) (k := 1) (s := j_a S lm s) (by decide)
    have et : t_rn S lm 0 9 1 (j_a S lm s) = (t_nm S lm 1 (j_a S lm s)).2 := t_ck_in ⟨v.1, by omega⟩
    refine (sp_numM 1 (by decide) c10.2.2).post (fun _ m12 y => ⟨by rw [← et]; exact y.1, fun z => y.2.1 (by rw [et]; exact z), D9fr d10 y.2.2 (by intro c i; unfold x_rM; omega), f10.tr (y.2.2.mono xr)⟩)
  · rintro _ _ - _ _ _ - _ _ _ - _ _ _ - _ _ _ - _ _ _ - _ _ _ - _ _ _ - _ _ _ - _ r10 m10 - _ z r12 m12 ⟨c12, e12, d12, f12⟩ _ w y
    have o := c12.2.2.2.1
    have := c12.2.2.1 (by rw [← c12.2.1]; exact w)
    obtain ⟨o1, o2, o3, -⟩ := o
    exact q_in_of (by omega) (by omega)
  · rintro _ _ - _ _ _ - _ _ _ - _ _ _ - _ _ _ - _ _ _ - _ _ _ - _ _ _ - _ _ _ - _ r10 m10 - _ z r12 m12 ⟨c12, e12, d12, f12⟩ _ w y
    have o := c12.2.2.2.1
    rw [c12.2.2.1 (by rw [← c12.2.1]; exact w)]
    obtain ⟨o1, o2, o3, -⟩ := o
    exact (sp_faultM c12 (by omega) (by omega)).post (fun _ _ q => ⟨q.1, D9fr d12 q.2 (by omega), f12.tr (q.2.mono (by intro c i; unfold x_jM x_rM; omega))⟩)
  · rintro _ _ - _ _ _ - _ _ _ - _ _ _ - _ _ _ - _ _ _ - _ _ _ - _ _ _ - _ _ _ - _ r10 m10 ⟨c10, ⟨d10, e10⟩, f10⟩ _ z r12 m12 ⟨c12, e12, d12, f12⟩ _ w y r15 m15 ⟨c15, d15, f15⟩ _
    have c10 := c10.resolve_right (fun y => by omega)
    have w2 : (t_nm S lm 1 (j_a S lm s)).2.2 = -1 := by rw [← c12.2.1]; exact w
    have je : j_e S lm He j s = t_fl (t_nm S lm 1 (j_a S lm s)).2 ((t_nm S lm 1 (j_a S lm s)).2.1 - 1) := by
      unfold j_e t_bl; rw [if_pos c10.2.1, if_pos (Or.inl (by rw [← e12 w2]; exact y))]
    rw [je]
    refine ⟨fr (by decide) (by decide) c15, f15.up (Or.inr ⟨by decide, rfl⟩), fun q => ?_⟩
    exfalso
    rw [t_fl_ok w2] at q
    have q : (t_nm S lm 1 (j_a S lm s)).2.1 - 1 = -1 := q
    have o9 := (j_ok9 (S := S) ok).1
    have := (t_nm_p (j_ao ok c10.2.1) w2).2
    have this : (j_9 S lm s).1 + 1 < (t_nm S lm 1 (j_a S lm s)).2.1 := this
    omega
  · rintro _ _ - _ _ _ - _ _ _ - _ _ _ - _ _ _ - _ _ _ - _ _ _ - _ _ _ - _ _ _ - _ r10 m10 - _ z r12 m12 ⟨c12, e12, d12, f12⟩ _ w y
    have v := t_nm_v (S := S) (lm := lm) (k := 1) (s := j_a S lm s) (by decide)
    have := e12 (by rw [← c12.2.1]; exact w)
    omega
  · rintro _ _ - _ _ _ - _ _ _ - _ _ _ - _ _ _ - _ _ _ - _ _ _ - _ _ _ - _ _ _ - _ r10 m10 ⟨c10, ⟨d10, e10⟩, f10⟩ _ z r12 m12 ⟨c12, e12, d12, f12⟩ _ w y q
    have c10 := c10.resolve_right (fun y => by omega)
    have w2 : (t_nm S lm 1 (j_a S lm s)).2.2 = -1 := by rw [← c12.2.1]; exact w
    have v := t_nm_v (S := S) (lm := lm) (k := 1) (s := j_a S lm s) (by decide)
    have e := e12 w2
    obtain ⟨d1, d2, d3, d4, d5⟩ := d12 c10.2.1.1
    rw [d5, f12 193 r12 (by unfold x_jM x_rM; omega), hH r12 (by omega) y] at q
    have je : j_e S lm He j s = (t_nm S lm 1 (j_a S lm s)).2 := by
      unfold j_e t_bl; rw [if_pos c10.2.1, if_neg (by rw [← e]; omega)]
    rw [je]
    refine ⟨fr (by decide) (by decide) c12, f12.up (Or.inr ⟨by decide, rfl⟩), fun _ => ?_⟩
    rw [q_up_c (by decide), q_up_c (by decide), q_up_c (by decide), q_up_c (by decide), q_up_c (by decide), q_up_s]
    exact ⟨d1, d2, d3, d4, d5, by unfold j_v6; rw [if_pos c10.2.1]; exact e⟩
  · rintro _ _ - _ _ _ - _ _ _ - _ _ _ - _ _ _ - _ _ _ - _ _ _ - _ _ _ - _ _ _ - _ r10 m10 - _ z r12 m12 ⟨c12, e12, d12, f12⟩ _ w y q
    have o := c12.2.2.2.1
    have := c12.2.2.1 (by rw [← c12.2.1]; exact w)
    obtain ⟨o1, o2, o3, -⟩ := o
    exact q_in_of (by omega) (by omega)
  · rintro _ _ - _ _ _ - _ _ _ - _ _ _ - _ _ _ - _ _ _ - _ _ _ - _ _ _ - _ _ _ - _ r10 m10 - _ z r12 m12 ⟨c12, e12, d12, f12⟩ _ w y q
    have o := c12.2.2.2.1
    rw [c12.2.2.1 (by rw [← c12.2.1]; exact w)]
    obtain ⟨o1, o2, o3, -⟩ := o
    exact (sp_faultM c12 (by omega) (by omega)).post (fun _ _ q => ⟨q.1, D9fr d12 q.2 (by omega), f12.tr (q.2.mono (by intro c i; unfold x_jM x_rM; omega))⟩)
  · rintro _ _ - _ _ _ - _ _ _ - _ _ _ - _ _ _ - _ _ _ - _ _ _ - _ _ _ - _ _ _ - _ r10 m10 ⟨c10, ⟨d10, e10⟩, f10⟩ _ z r12 m12 ⟨c12, e12, d12, f12⟩ _ w y q r15 m15 ⟨c15, d15, f15⟩ _
    have c10 := c10.resolve_right (fun y => by omega)
    have w2 : (t_nm S lm 1 (j_a S lm s)).2.2 = -1 := by rw [← c12.2.1]; exact w
    have v := t_nm_v (S := S) (lm := lm) (k := 1) (s := j_a S lm s) (by decide)
    have e := e12 w2
    obtain ⟨d1, d2, d3, d4, d5⟩ := d12 c10.2.1.1
    rw [d5, f12 193 r12 (by unfold x_jM x_rM; omega), hH r12 (by omega) y] at q
    have je : j_e S lm He j s = t_fl (t_nm S lm 1 (j_a S lm s)).2 ((t_nm S lm 1 (j_a S lm s)).2.1 - 1) := by
      unfold j_e t_bl; rw [if_pos c10.2.1, if_pos (Or.inr (by rw [← e]; exact q))]
    rw [je]
    refine ⟨fr (by decide) (by decide) c15, f15.up (Or.inr ⟨by decide, rfl⟩), fun q => ?_⟩
    exfalso
    rw [t_fl_ok w2] at q
    have q : (t_nm S lm 1 (j_a S lm s)).2.1 - 1 = -1 := q
    have o9 := (j_ok9 (S := S) ok).1
    have := (t_nm_p (j_ao ok c10.2.1) w2).2
    have this : (j_9 S lm s).1 + 1 < (t_nm S lm 1 (j_a S lm s)).2.1 := this
    omega
  · rintro _ _ - _ _ _ - _ _ _ - _ _ _ - _ _ _ - _ _ _ - _ _ _ - _ _ _ - _ _ _ - _ r10 m10 ⟨c10, ⟨d10, e10⟩, f10⟩ _ z r12 m12 ⟨c12, e12, d12, f12⟩ _ w
    have c10 := c10.resolve_right (fun y => by omega)
    have w2 : (t_nm S lm 1 (j_a S lm s)).2.2 ≠ -1 := by rw [← c12.2.1]; exact w
    have je : j_e S lm He j s = (t_nm S lm 1 (j_a S lm s)).2 := by
      unfold j_e t_bl; rw [if_pos c10.2.1, t_fl_fl w2]; split <;> rfl
    rw [je]
    exact ⟨fr (by decide) (by decide) c12, f12.up (Or.inr ⟨by decide, rfl⟩), fun q => absurd q w2⟩
  · rintro _ _ - _ _ _ - _ _ _ - _ _ _ - _ _ _ - _ _ _ - _ _ _ - _ _ _ - _ _ _ - _ r10 m10 ⟨c10, ⟨d10, e10⟩, f10⟩ _ z
    have c10 := c10.resolve_left (fun y => by omega)
    have je : j_e S lm He j s = j_9 S lm s := by unfold j_e; rw [if_neg c10.2.1]
    rw [je]
    refine ⟨c10.2.2, f10, fun q => ?_⟩
    obtain ⟨d1, d2, d3, d4, d5⟩ := d10 q
    exact ⟨d1, d2, d3, d4, d5, by unfold j_v6; rw [if_neg c10.2.1]; exact e10⟩
end TOWNR
