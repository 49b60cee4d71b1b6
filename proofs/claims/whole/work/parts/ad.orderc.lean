/-! ===== both read AN ORDER ===== -/
abbrev x_orC (c i : Int) : Prop := (c = 145 ∧ 2 ≤ i ∧ i ≤ 4) ∨ (c = 154 ∧ i = 4) ∨ (155 ≤ c ∧ c ≤ 158)
def c_O (m G : qm) : Prop := ∀ k, 0 ≤ k → k < G 7 0 → m 155 k = G 0 k ∧ m 158 k = G 3 k ∧ (G 0 k ≠ 98 → m 156 k = G 1 k) ∧ (G 0 k = 112 → m 157 k = G 2 k)
theorem c_O.fr {m m' G : qm} {X : Int → Int → Prop} (h : c_O m G) (hf : q_fx X m m') (hd : ∀ c i, 155 ≤ c ∧ c ≤ 158 → ¬ X c i) : c_O m' G := by
  intro k k0 k1
  rw [hf 155 k (hd _ _ (by decide)), hf 158 k (hd _ _ (by decide)), hf 156 k (hd _ _ (by decide)), hf 157 k (hd _ _ (by decide))]
  exact h k k0 k1
section ORDC
variable {b : Int} {m : qm} {S : Int → Int} {lm : Int} {s : a_R}
/-- what readStep() leaves at place k -/
def o_post (S : Int → Int) (lm : Int) (s : a_R) (k : Int) (m m' : qm) : Prop := c_R m' S lm (o_e S lm s) ∧ ((o_e S lm s).2 = -1 → m' 155 k = S s.1 ∧ m' 158 k = o_vn S lm s ∧ (S s.1 ≠ 98 → m' 156 k = o_va S lm s) ∧ (S s.1 = 112 → m' 157 k = o_vb S lm s)) ∧ q_fx (fun c i => x_rC c i ∨ ((155 ≤ c ∧ c ≤ 158) ∧ i = k)) m m'
theorem sp_stepC {k : Int} (h : c_R m S lm s) (hs : s.2 = -1) (hk : m 154 4 = k) (hk0 : 0 ≤ k ∧ k < 60) : q_Ev yX8_readStep cX8_readStep 2 none 4 0 0 [(2, 154), (2, 145)] (q_sh0, q_rb b, m) (qK (q_rb b) (fun _ m' => o_post S lm s k m m')) := by
  have ok := h.2.2.2.1
  have xr : ∀ c i, x_rC c i → (x_rC c i ∨ ((155 ≤ c ∧ c ≤ 158) ∧ i = k)) := fun c i z => Or.inl z
  have fr : ∀ {m1 : qm} {s1 : a_R} {c v : Int}, 155 ≤ c → c ≤ 158 → c_R m1 S lm s1 → c_R (q_up m1 c k v) S lm s1 := fun {m1 s1 c v} z1 z2 r => r.fr (X := fun c' _ => c' = c) (q_fx.rf.up rfl) (fun c' i y => by omega)
  refine q_enter (by decide +kernel) (by simp) (Nat.le_of_ble_eq_true rfl) ?_
  -- the number at the end
  have at109 : ∀ (m1 : qm) (u : a_R), c_R m1 S lm u → t_rn S lm 0 99 2 u = o_e S lm s → ((o_e S lm s).2 = -1 → (t_nm S lm 2 u).1 = o_vn S lm s) → q_fx (fun c i => x_rC c i ∨ ((155 ≤ c ∧ c ≤ 158) ∧ i = k)) m m1 → ((o_e S lm s).2 = -1 → m1 155 k = S s.1 ∧ (S s.1 ≠ 98 → m1 156 k = o_va S lm s) ∧ (S s.1 = 112 → m1 157 k = o_vb S lm s)) → q_At yX8_readStep cX8_readStep 2 none 4 0 0 (qK (q_rb b) (fun _ m' => o_post S lm s k m m')) 109 [(2, 154), (2, 145)] [] (q_sh0, q_rb b, m1) := by
    intro m1 u c1 e1 v1 f1 h1
    have ek : m1 154 4 = k := (f1 _ _ (by unfold x_rC; omega)).trans hk
    have v := t_nm_v (S := S) (lm := lm) (k := 2) (s := u) (by decide)
    have et : t_rn S lm 0 99 2 u = (t_nm S lm 2 u).2 := t_ck_in ⟨v.1, by omega⟩
    refine bkX8_readStep_109 (sp_numberC 2 (by decide) c1) (fun _ _ _ _ => by omega) ?_
    rintro r2 m2 ⟨e2, c2, f2⟩ _
    rw [ek]
    refine ⟨?_, fun y => ?_, ((f1.tr (f2.mono xr)).up (Or.inr ⟨by decide, rfl⟩))⟩
    · rw [← e1, et]; exact fr (by decide) (by decide) c2
    · obtain ⟨p1, p2, p3⟩ := h1 y
      rw [q_up_s, q_up_c (by decide), q_up_c (by decide), q_up_c (by decide), f2 155 k (by unfold x_rC; omega), f2 156 k (by unfold x_rC; omega), f2 157 k (by unfold x_rC; omega), e2, v1 y]
      exact ⟨p1, rfl, p2, p3⟩
  have eo_fl : ¬ t_is S lm s 112 → ¬ o_ws S lm s → ¬ t_is S lm s 98 → o_e S lm s = t_fl s s.1 := fun a b c => by unfold o_e; rw [if_neg a, if_neg b, if_neg c]
  have at81 : ∀ (m1 : qm), ¬ t_is S lm s 112 → o_ws S lm s → c_R m1 S lm (o_ad s) → q_fx (fun c i => x_rC c i ∨ ((155 ≤ c ∧ c ≤ 158) ∧ i = k)) m m1 → m1 155 k = S s.1 → q_At yX8_readStep cX8_readStep 2 none 4 0 0 (qK (q_rb b) (fun _ m' => o_post S lm s k m m')) 81 [(2, 154), (2, 145)] [] (q_sh0, q_rb b, m1) := by
    intro m1 n112 hw c1 f1 h1
    have ek : m1 154 4 = k := (f1 _ _ (by unfold x_rC; omega)).trans hk
    have eo : o_e S lm s = o_w3 S lm (o_ad s) := by unfold o_e; rw [if_neg n112, if_pos hw]
    have ev : o_vn S lm s = (t_nm S lm 2 (o_w2 S lm (o_ad s))).1 := by unfold o_vn; rw [if_neg n112, if_pos hw]
    have sc : S s.1 ≠ 112 := fun q => by rcases hw with w | w <;> (have := w.2.2; omega)
    have va := t_nm_v (S := S) (lm := lm) (k := 1) (s := o_ad s) (by decide)
    have et : o_p1 S lm (o_ad s) = (t_nm S lm 1 (o_ad s)).2 := t_ck_in ⟨va.1, by omega⟩
    refine bkX8_readStep_81 (P2 := fun _ _ _ m2 => c_R m2 S lm (o_w2 S lm (o_ad s)) ∧ q_fx (fun c i => x_rC c i ∨ ((155 ≤ c ∧ c ≤ 158) ∧ i = k)) m m2 ∧ m2 155 k = S s.1 ∧ m2 156 k = o_va S lm s) (sp_digit1C c1) (fun _ _ _ _ => by omega) ?_ ?_
    · rintro r2 m2 ⟨e2, c2, f2⟩ _
      rw [ek]
      refine (sp_needC (fr (by decide) (by decide) (by rw [et]; exact c2)) (by decide) (by decide)).post (fun _ m3 y => ⟨y.1, ((f1.tr (f2.mono xr)).up (Or.inr ⟨by decide, rfl⟩)).tr (y.2.mono xr), ?_, ?_⟩)
      · rw [y.2 155 k (by unfold x_rC; omega), q_up_c (by decide), f2 155 k (by unfold x_rC; omega)]; exact h1
      · rw [y.2 156 k (by unfold x_rC; omega), q_up_s]; exact e2
    · rintro r2 m2 - _ r3 m3 ⟨c3, f3, p3, q3⟩ _
      exact at109 m3 _ c3 (by rw [eo]; rfl) (fun _ => ev.symm) f3 (fun _ => ⟨p3, fun _ => q3, fun y => absurd y sc⟩)
  refine bkX8_readStep_0 (P1 := fun r m1 => m1 = m ∧ ∀ ch, 0 ≤ ch → ch ≤ 127 → (r = ch ↔ t_is S lm s ch)) (P2 := fun r1 _ r m2 => ((r = 1 ∧ t_is S lm s 112 ∧ c_R m2 S lm (o_ad s)) ∨ (r = 0 ∧ ¬ t_is S lm s 112 ∧ c_R m2 S lm s)) ∧ m2 155 k = r1 ∧ q_fx (fun c i => x_rC c i ∨ ((155 ≤ c ∧ c ≤ 158) ∧ i = k)) m m2) (P4 := fun r1 _ _ _ r m4 => ((r = 1 ∧ t_is S lm s 119 ∧ c_R m4 S lm (o_ad s)) ∨ (r = 0 ∧ ¬ t_is S lm s 119 ∧ c_R m4 S lm s)) ∧ m4 155 k = r1 ∧ q_fx (fun c i => x_rC c i ∨ ((155 ≤ c ∧ c ≤ 158) ∧ i = k)) m m4) (P6 := fun r1 _ _ _ _ _ r m6 => ((r = 1 ∧ t_is S lm s 115 ∧ c_R m6 S lm (o_ad s)) ∨ (r = 0 ∧ ¬ t_is S lm s 115 ∧ c_R m6 S lm s)) ∧ m6 155 k = r1 ∧ q_fx (fun c i => x_rC c i ∨ ((155 ≤ c ∧ c ≤ 158) ∧ i = k)) m m6) (P8 := fun r1 _ _ _ _ _ _ _ _ m8 => c_R m8 S lm (t_nd S lm 98 s) ∧ m8 155 k = r1 ∧ q_fx (fun c i => x_rC c i ∨ ((155 ≤ c ∧ c ≤ 158) ∧ i = k)) m m8)
    (P9 := fun r1 _ _ _ r m9 => r = o_va S lm s ∧ c_R m9 S lm (o_p1 S lm (o_ad s)) ∧ m9 155 k = r1 ∧ q_fx (fun c i => x_rC c i ∨ ((155 ≤ c ∧ c ≤ 158) ∧ i = k)) m m9) (P10 := fun r1 _ _ _ _ _ _ m9 => c_R m9 S lm (o_p2 S lm (o_ad s)) ∧ m9 155 k = r1 ∧ m9 156 k = o_va S lm s ∧ q_fx (fun c i => x_rC c i ∨ ((155 ≤ c ∧ c ≤ 158) ∧ i = k)) m m9) (P11 := fun r1 _ _ _ _ _ _ _ r m9 => r = o_vb S lm s ∧ c_R m9 S lm (o_p3 S lm (o_ad s)) ∧ m9 155 k = r1 ∧ m9 156 k = o_va S lm s ∧ q_fx (fun c i => x_rC c i ∨ ((155 ≤ c ∧ c ≤ 158) ∧ i = k)) m m9) (P12 := fun r1 _ _ _ _ _ _ _ _ _ _ m9 => c_R m9 S lm (o_p4 S lm (o_ad s)) ∧ m9 155 k = r1 ∧ m9 156 k = o_va S lm s ∧ m9 157 k = o_vb S lm s ∧ q_fx (fun c i => x_rC c i ∨ ((155 ≤ c ∧ c ≤ 158) ∧ i = k)) m m9)
    ((sp_peekC h).post (fun r m1 y => ⟨y.1, y.2.1⟩)) (fun _ _ _ _ => by omega) ?_ ?_ ?_ ?_ ?_ ?_ ?_ ?_ ?_ ?_ ?_ ?_ ?_ ?_
  · rintro r1 m1 ⟨rfl, g1⟩ _
    rw [hk]
    refine (sp_skipC (fr (by decide) (by decide) h) (by decide) (by decide)).post (fun r m2 y => ⟨y.1, ?_, (q_fx.rf.up (Or.inr ⟨by decide, rfl⟩)).tr (y.2.mono xr)⟩)
    rw [y.2 155 k (by unfold x_rC; omega), q_up_s]
  · rintro r1 m1 ⟨rfl, g1⟩ _ r2 m2 ⟨g2, p2, f2⟩ _ z
    refine (sp_skipC (g2.resolve_left (fun y => by omega)).2.2 (by decide) (by decide)).post (fun r m4 y => ⟨y.1, ?_, f2.tr (y.2.mono xr)⟩)
    rw [y.2 155 k (by unfold x_rC; omega)]; exact p2
  · rintro r1 m1 ⟨rfl, g1⟩ _ r2 m2 ⟨g2, p2, f2⟩ _ z r4 m4 ⟨g4, p4, f4⟩ _ z4
    have g4 := g4.resolve_right (fun y => by omega)
    exact at81 m4 (g2.resolve_left (fun y => by omega)).2.1 (Or.inl g4.2.1) g4.2.2 f4 (by rw [p4, (g1 119 (by decide) (by decide)).mpr g4.2.1, g4.2.1.2.2])
  · rintro r1 m1 ⟨rfl, g1⟩ _ r2 m2 ⟨g2, p2, f2⟩ _ z r4 m4 ⟨g4, p4, f4⟩ _ z4
    refine (sp_skipC (g4.resolve_left (fun y => by omega)).2.2 (by decide) (by decide)).post (fun r m6 y => ⟨y.1, ?_, f4.tr (y.2.mono xr)⟩)
    rw [y.2 155 k (by unfold x_rC; omega)]; exact p4
  · rintro r1 m1 ⟨rfl, g1⟩ _ r2 m2 ⟨g2, p2, f2⟩ _ z r4 m4 ⟨g4, p4, f4⟩ _ z4 r6 m6 ⟨g6, p6, f6⟩ _ z6
    refine (sp_needC (g6.resolve_left (fun y => by omega)).2.2 (by decide) (by decide)).post (fun r m8 y => ⟨y.1, ?_, f6.tr (y.2.mono xr)⟩)
    rw [y.2 155 k (by unfold x_rC; omega)]; exact p6
  · rintro r1 m1 ⟨rfl, g1⟩ _ r2 m2 ⟨g2, p2, f2⟩ _ z r4 m4 ⟨g4, p4, f4⟩ _ z4 r6 m6 ⟨g6, p6, f6⟩ _ z6 r8 m8 ⟨c8, p8, f8⟩ _
    have n112 := (g2.resolve_left (fun y => by omega)).2.1
    have nws : ¬ o_ws S lm s := fun y => by
      rcases y with y | y
      · exact (g4.resolve_left (fun y => by omega)).2.1 y
      · exact (g6.resolve_left (fun y => by omega)).2.1 y
    by_cases hb : t_is S lm s 98
    · have e8 : t_nd S lm 98 s = o_ad s := by unfold t_nd; rw [if_pos hb]
      rw [e8] at c8
      have eo : o_e S lm s = o_b1 S lm (o_ad s) := by unfold o_e; rw [if_neg n112, if_neg nws, if_pos hb]
      have ev : o_vn S lm s = (t_nm S lm 2 (o_ad s)).1 := by unfold o_vn; rw [if_neg n112, if_neg nws]
      exact at109 m8 _ c8 (by rw [eo]; rfl) (fun _ => ev.symm) f8 (fun _ => ⟨by rw [p8, (g1 98 (by decide) (by decide)).mpr hb, hb.2.2], fun y => absurd hb.2.2 y, fun y => by have := hb.2.2; omega⟩)
    · have e8 : t_nd S lm 98 s = t_fl s s.1 := by unfold t_nd; rw [if_neg hb]
      rw [e8] at c8
      have eo := eo_fl n112 nws hb
      have nf : (o_e S lm s).2 ≠ -1 := by rw [eo, t_fl_ok hs]; have := ok.1; show s.1 ≠ -1; omega
      exact at109 m8 _ c8 (by rw [← eo]; exact t_rn_fl nf) (fun y => absurd y nf) f8 (fun y => absurd y nf)
  · rintro r1 m1 ⟨rfl, g1⟩ _ r2 m2 ⟨g2, p2, f2⟩ _ z r4 m4 ⟨g4, p4, f4⟩ _ z4 r6 m6 ⟨g6, p6, f6⟩ _ z6
    have g6 := g6.resolve_right (fun y => by omega)
    exact at81 m6 (g2.resolve_left (fun y => by omega)).2.1 (Or.inr g6.2.1) g6.2.2 f6 (by rw [p6, (g1 115 (by decide) (by decide)).mpr g6.2.1, g6.2.1.2.2])
  · rintro r1 m1 ⟨rfl, g1⟩ _ r2 m2 ⟨g2, p2, f2⟩ _ z
    have va := t_nm_v (S := S) (lm := lm) (k := 1) (s := o_ad s) (by decide)
    have et : o_p1 S lm (o_ad s) = (t_nm S lm 1 (o_ad s)).2 := t_ck_in ⟨va.1, by omega⟩
    refine (sp_digit1C (g2.resolve_right (fun y => by omega)).2.2).post (fun r m9 y => ⟨y.1, by rw [et]; exact y.2.1, ?_, f2.tr (y.2.2.mono xr)⟩)
    rw [y.2.2 155 k (by unfold x_rC; omega)]; exact p2
  · rintro r1 m1 ⟨rfl, g1⟩ _ r2 m2 ⟨g2, p2, f2⟩ _ z r9 m9 - _
    rw [f2 154 4 (by unfold x_rC; omega), hk]; exact hk0
  · rintro r1 m1 ⟨rfl, g1⟩ _ r2 m2 ⟨g2, p2, f2⟩ _ z r9 m9 ⟨e9, c9, p9, f9⟩ _
    rw [f2 154 4 (by unfold x_rC; omega), hk]
    refine (sp_needC (fr (by decide) (by decide) c9) (by decide) (by decide)).post (fun r m10 y => ⟨y.1, ?_, ?_, (f9.up (Or.inr ⟨by decide, rfl⟩)).tr (y.2.mono xr)⟩)
    · rw [y.2 155 k (by unfold x_rC; omega), q_up_c (by decide)]; exact p9
    · rw [y.2 156 k (by unfold x_rC; omega), q_up_s]; exact e9
  · rintro r1 m1 ⟨rfl, g1⟩ _ r2 m2 - _ z r9 m9 - _ r10 m10 ⟨c10, p10, q10, f10⟩ _
    have vb := t_nm_v (S := S) (lm := lm) (k := 1) (s := o_p2 S lm (o_ad s)) (by decide)
    have et : o_p3 S lm (o_ad s) = (t_nm S lm 1 (o_p2 S lm (o_ad s))).2 := t_ck_in ⟨vb.1, by omega⟩
    refine (sp_digit1C c10).post (fun r m11 y => ⟨y.1, by rw [et]; exact y.2.1, ?_, ?_, f10.tr (y.2.2.mono xr)⟩)
    · rw [y.2.2 155 k (by unfold x_rC; omega)]; exact p10
    · rw [y.2.2 156 k (by unfold x_rC; omega)]; exact q10
  · rintro r1 m1 ⟨rfl, g1⟩ _ r2 m2 - _ z r9 m9 - _ r10 m10 ⟨c10, p10, q10, f10⟩ _ r11 m11 - _
    rw [f10 154 4 (by unfold x_rC; omega), hk]; exact hk0
  · rintro r1 m1 ⟨rfl, g1⟩ _ r2 m2 - _ z r9 m9 - _ r10 m10 ⟨c10, p10, q10, f10⟩ _ r11 m11 ⟨e11, c11, p11, q11, f11⟩ _
    rw [f10 154 4 (by unfold x_rC; omega), hk]
    refine (sp_needC (fr (by decide) (by decide) c11) (by decide) (by decide)).post (fun r m12 y => ⟨y.1, ?_, ?_, ?_, (f11.up (Or.inr ⟨by decide, rfl⟩)).tr (y.2.mono xr)⟩)
    · rw [y.2 155 k (by unfold x_rC; omega), q_up_c (by decide)]; exact p11
    · rw [y.2 156 k (by unfold x_rC; omega), q_up_c (by decide)]; exact q11
    · rw [y.2 157 k (by unfold x_rC; omega), q_up_s]; exact e11
  · rintro r1 m1 ⟨rfl, g1⟩ _ r2 m2 ⟨g2, -⟩ _ z r9 m9 - _ r10 m10 - _ r11 m11 - _ r12 m12 ⟨c12, p12, q12, w12, f12⟩ _
    have hp := (g2.resolve_right (fun y => by omega)).2.1
    have eo : o_e S lm s = o_p5 S lm (o_ad s) := by unfold o_e; rw [if_pos hp]
    have ev : o_vn S lm s = (t_nm S lm 2 (o_p4 S lm (o_ad s))).1 := by unfold o_vn; rw [if_pos hp]
    exact at109 m12 _ c12 (by rw [eo]; rfl) (fun _ => ev.symm) f12 (fun _ => ⟨by rw [p12, (g1 112 (by decide) (by decide)).mpr hp, hp.2.2], fun _ => q12, fun _ => w12⟩)
end ORDC
theorem sp_readSC {b : Int} {m : qm} (x : i_X m) : q_Ev yX8_read cX8_read 3 (some .int) 5 0 0 [(2, 154), (2, 145)] (q_sh0, q_rb b, m) (qK (q_rb b) (fun r m' => r = (if t_end (m 188 14) 60 (o_all m).2 = -1 then 0 else -1 - t_end (m 188 14) 60 (o_all m).2) ∧ ((o_all m).2.2 = -1 → m' 154 4 = (o_all m).1 7 0 ∧ c_O m' (o_all m).1 ∧ o_GV (o_all m).1 61) ∧ t_ok (min (m 188 14) 60) (o_all m).2 ∧ q_fx x_orC m m')) := by
  have X := x
  obtain ⟨x1, x2, x3, x4⟩ := x
  have F0 : q_fx (fun c i => c = 154 ∧ i = 4) m (q_up m 154 4 0) := q_fx.rf.up ⟨rfl, rfl⟩
  have X0 : i_X (q_up m 154 4 0) := X.fr F0 (by intro c i; unfold x_X; omega)
  have e14 : (q_up m 154 4 0) 188 14 = m 188 14 := q_up_c (by decide)
  have eS : t_S (q_up m 154 4 0) 198 = t_S m 198 := by funext i; unfold t_S; rw [q_up_c (by decide)]
  have xr : ∀ c i, x_rC c i → x_orC c i := by intro c i; unfold x_rC x_orC; omega
  refine q_enter (by decide +kernel) (by simp) (Nat.le_of_ble_eq_true rfl) ?_
  -- the end
  have fin : ∀ m1, c_R m1 (t_S m 198) (min (m 188 14) 60) (o_all m).2 → ((o_all m).2.2 = -1 → m1 154 4 = (o_all m).1 7 0 ∧ c_O m1 (o_all m).1 ∧ o_GV (o_all m).1 61) → q_fx x_orC m m1 → q_At yX8_read cX8_read 3 (some .int) 5 0 0 (qK (q_rb b) (fun r m' => r = (if t_end (m 188 14) 60 (o_all m).2 = -1 then 0 else -1 - t_end (m 188 14) 60 (o_all m).2) ∧ ((o_all m).2.2 = -1 → m' 154 4 = (o_all m).1 7 0 ∧ c_O m' (o_all m).1 ∧ o_GV (o_all m).1 61) ∧ t_ok (min (m 188 14) 60) (o_all m).2 ∧ q_fx x_orC m m')) 24 [(2, 154), (2, 145), (0, 0)] [] (q_sh0, q_rb b, m1) := by
    intro m1 c1 h1 f1
    refine bkX8_read_24 (P4 := fun _ _ => True) (P5 := fun _ _ => True) (P6 := fun _ _ _ _ => True) (fun _ => sp_close (L := m 188 14) c1 ((f1 145 1 (by unfold x_orC; omega)).trans x1) (by decide) x3) ?_ (fun z => absurd rfl z) (fun z => absurd rfl z) (fun z => absurd rfl z) (fun z => absurd rfl z) (fun z => absurd rfl z) (fun z => absurd rfl z)
    rintro _ r2 m2 ⟨e2, f2⟩ _
    exact ⟨e2, fun y => ⟨(f2 154 4 (by unfold x_rC; omega)).trans (h1 y).1, (h1 y).2.1.fr f2 (by intro c i; unfold x_rC; omega), (h1 y).2.2⟩, c1.2.2.2.1, f1.tr (f2.mono xr)⟩
  have go : ∀ (f : Nat) (u : qm × a_R) (m' : qm), min (m 188 14) 60 - u.2.1 < f → u.2.2 = -1 → c_R m' (t_S m 198) (min (m 188 14) 60) u.2 → m' 154 4 = u.1 7 0 → c_O m' u.1 → o_GV u.1 u.2.1 → q_fx x_orC m m' → o_tw (t_S m 198) (min (m 188 14) 60) f u = o_all m → q_At yX8_read cX8_read 3 (some .int) 5 0 0 (qK (q_rb b) (fun r m' => r = (if t_end (m 188 14) 60 (o_all m).2 = -1 then 0 else -1 - t_end (m 188 14) 60 (o_all m).2) ∧ ((o_all m).2.2 = -1 → m' 154 4 = (o_all m).1 7 0 ∧ c_O m' (o_all m).1 ∧ o_GV (o_all m).1 61) ∧ t_ok (min (m 188 14) 60) (o_all m).2 ∧ q_fx x_orC m m')) 24 [(2, 154), (2, 145), (0, 1)] [] (q_sh0, q_rb b, m') := by
    intro f
    induction f with
    | zero =>
      intro u m' hf uf c hk co gv fx he
      have := c.2.2.2.1.2.1
      omega
    | succ f ih =>
      intro u m' hf uf c hk co gv fx he
      have ok := c.2.2.2.1
      have k2 := ok.2.1
      have g1 := gv.1
      have g2 := gv.2.1
      simp only [o_tw] at he
      have okl := o_ln_ok (S := t_S m 198) ok
      refine bkX8_read_24 (P2 := fun _ _ => True) (P4 := fun _ _ => True) (P5 := fun _ m5 => o_post (t_S m 198) (min (m 188 14) 60) u.2 (u.1 7 0) m' m5) (P6 := fun _ m5 r m6 => ((r = 1 ∧ t_is (t_S m 198) (min (m 188 14) 60) (o_e (t_S m 198) (min (m 188 14) 60) u.2) 59 ∧ c_R m6 (t_S m 198) (min (m 188 14) 60) (o_ad (o_e (t_S m 198) (min (m 188 14) 60) u.2))) ∨ (r = 0 ∧ ¬ t_is (t_S m 198) (min (m 188 14) 60) (o_e (t_S m 198) (min (m 188 14) 60) u.2) 59 ∧ c_R m6 (t_S m 198) (min (m 188 14) 60) (o_e (t_S m 198) (min (m 188 14) 60) u.2))) ∧ q_fx x_rC (q_up m5 154 4 (m5 154 4 + 1)) m6) (fun z => absurd z (by decide)) (fun z => absurd z (by decide)) (fun _ z => absurd z (by omega)) (fun _ z => absurd z (by omega)) (fun _ _ => sp_stepC c uf hk (by omega)) ?_ ?_ ?_
      · rintro _ _ r5 m5 ⟨-, -, f5⟩ _
        rw [f5 154 4 (by unfold x_rC; omega), hk]; exact q_in_of (by omega) (by omega)
      · rintro _ _ r5 m5 ⟨c5, -, f5⟩ _
        exact sp_skipC (c5.fr (X := fun c i => c = 154 ∧ i = 4) (q_fx.rf.up ⟨rfl, rfl⟩) (by omega)) (by decide) (by decide)
      · rintro _ _ r5 m5 ⟨c5, h5, f5⟩ _ r6 m6 ⟨g6, f6⟩ _
        have e5 : m5 154 4 = u.1 7 0 := (f5 154 4 (by unfold x_rC; omega)).trans hk
        have F6 : q_fx x_orC m m6 := ((fx.tr (f5.mono (by intro c i; unfold x_rC x_orC; omega))).up (Or.inr (Or.inl ⟨rfl, rfl⟩))).tr (f6.mono xr)
        -- what is told so far
        have told : (o_ln (t_S m 198) (min (m 188 14) 60) u).2.2 = -1 → m6 154 4 = (o_ln (t_S m 198) (min (m 188 14) 60) u).1 7 0 ∧ c_O m6 (o_ln (t_S m 198) (min (m 188 14) 60) u).1 := by
          intro y
          have y : (o_e (t_S m 198) (min (m 188 14) 60) u.2).2 = -1 := y
          obtain ⟨p1, p2, p3, p4⟩ := h5 y
          obtain ⟨s7, s0, s1, s2, s3⟩ := o_put_s (S := t_S m 198) (lm := min (m 188 14) 60) (s := u.2) (G := u.1)
          have eG : (o_ln (t_S m 198) (min (m 188 14) 60) u).1 = o_put (t_S m 198) (min (m 188 14) 60) u.2 u.1 := by
            show (if (o_e (t_S m 198) (min (m 188 14) 60) u.2).2 = -1 then _ else _) = _
            rw [if_pos y]
          rw [eG]
          refine ⟨by rw [f6 154 4 (by unfold x_rC; omega), q_up_s, e5, s7], fun k k0 k1 => ?_⟩
          have r6 : ∀ c, 155 ≤ c → c ≤ 158 → m6 c k = m5 c k := fun c a b => by rw [f6 c k (by unfold x_rC; omega), q_up_c (by omega)]
          rw [r6 155 (by decide) (by decide), r6 156 (by decide) (by decide), r6 157 (by decide) (by decide), r6 158 (by decide) (by decide)]
          by_cases q : k = u.1 7 0
          · rw [q, s0, s1, s2, s3]; exact ⟨p1, p2, p3, p4⟩
          · rw [o_put_o (by decide) q, o_put_o (by decide) q, o_put_o (by decide) q, o_put_o (by decide) q, f5 155 k (by unfold x_rC; omega), f5 156 k (by unfold x_rC; omega), f5 157 k (by unfold x_rC; omega), f5 158 k (by unfold x_rC; omega)]
            exact co k k0 (by omega)
        rcases g6 with ⟨rfl, i6, c6⟩ | ⟨rfl, i6, c6⟩
        · rw [if_pos (show t_is (t_S m 198) (min (m 188 14) 60) (o_ln (t_S m 198) (min (m 188 14) 60) u).2 59 from i6)] at he
          obtain ⟨t1, t2⟩ := told i6.1
          have lp := o_ln_p (S := t_S m 198) ok i6.1
          have lp2 := lp.2
          exact ih ((o_ln (t_S m 198) (min (m 188 14) 60) u).1, ((o_ln (t_S m 198) (min (m 188 14) 60) u).2.1 + 1, (o_ln (t_S m 198) (min (m 188 14) 60) u).2.2)) m6 (by show min (m 188 14) 60 - ((o_ln (t_S m 198) (min (m 188 14) 60) u).2.1 + 1) < f; omega) i6.1 c6 t1 t2 (gv.ln ok i6.1) F6 he
        · rw [if_neg (show ¬ t_is (t_S m 198) (min (m 188 14) 60) (o_ln (t_S m 198) (min (m 188 14) 60) u).2 59 from i6)] at he
          refine fin m6 (by rw [← he]; exact c6) (fun y => ?_) F6
          rw [← he] at y ⊢
          obtain ⟨t1, t2⟩ := told y
          have G := gv.ln ok y
          have kk := okl.2.1
          exact ⟨t1, t2, G.1, by have := G.2.1; omega, G.2.2.1, by
            obtain ⟨K1, K2, a, b⟩ := G.2.2.2
            exact ⟨K1, K2, a, by omega⟩⟩
  refine bkX8_read_0 (sp_open X0 (by decide)) ?_ ?_
  · rintro _ m1 ⟨c1, f1⟩ _ z
    rw [eS, e14] at c1
    have e1 : m1 145 1 = m 188 14 := by rw [f1 145 1 (by omega), q_up_c (by decide), x1]
    have ea : o_all m = (o_G0, (0, -1)) := by unfold o_all; rw [if_pos (by omega)]
    have F1 : q_fx x_orC m m1 := (F0.mono (by intro c i; unfold x_orC; omega)).tr (f1.mono (by intro c i; unfold x_orC; omega))
    refine fin m1 (by rw [ea]; exact c1) (fun _ => ?_) F1
    rw [ea]
    refine ⟨by rw [f1 154 4 (by omega), q_up_s]; rfl, fun k k0 k1 => by have k1 : k < (0 : Int) := k1; omega, ?_⟩
    obtain ⟨a1, a2, a3, a4⟩ := o_G0_V
    exact ⟨a1, by show 3 * (0 : Int) ≤ 61; decide, a3, 0, 0, by decide, by decide⟩
  · rintro _ m1 ⟨c1, f1⟩ _ z
    rw [eS, e14] at c1
    have e1 : m1 145 1 = m 188 14 := by rw [f1 145 1 (by omega), q_up_c (by decide), x1]
    have ea : o_all m = o_tw (t_S m 198) (min (m 188 14) 60) 100 (o_G0, (0, -1)) := by unfold o_all; rw [if_neg (by omega)]
    have F1 : q_fx x_orC m m1 := (F0.mono (by intro c i; unfold x_orC; omega)).tr (f1.mono (by intro c i; unfold x_orC; omega))
    exact go 100 (o_G0, (0, -1)) m1 (by show min (m 188 14) 60 - 0 < 100; omega) rfl c1 (by rw [f1 154 4 (by omega), q_up_s]; rfl) (fun k k0 k1 => by have k1 : k < (0 : Int) := k1; omega) o_G0_V F1 ea.symm
