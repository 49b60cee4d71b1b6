/-! ===== the class reads a LAW ===== -/
def l_dl (m : qm) (D : List Int) : Prop := m 149 4 = D.length ∧ D.length ≤ 40 ∧ ∀ i : Nat, i < D.length → m 150 i = D.getD i 0
abbrev x_dr (c i : Int) : Prop := (c = 149 ∧ i = 4) ∨ c = 150
abbrev x_lwC (c i : Int) : Prop := x_rC c i ∨ x_dr c i
theorem l_dl.fr {m m' : qm} {D : List Int} {X : Int → Int → Prop} (h : l_dl m D) (hf : q_fx X m m') (hd : ∀ c i, x_dr c i → ¬ X c i) : l_dl m' D :=
  ⟨(hf _ _ (hd _ _ (Or.inl ⟨rfl, rfl⟩))).trans h.1, h.2.1, fun i hi => (hf _ _ (hd _ _ (Or.inr rfl))).trans (h.2.2 i hi)⟩
theorem l_getD_app {D E : List Int} {i : Nat} (h : i < D.length) : (D ++ E).getD i 0 = D.getD i 0 := by rw [List.getD_eq_getElem?_getD, List.getD_eq_getElem?_getD, List.getElem?_append_left h]
theorem l_getD_end {D : List Int} {v : Int} : (D ++ [v]).getD D.length 0 = v := by rw [List.getD_eq_getElem?_getD, List.getElem?_append_right (Nat.le_refl _)]; simp
theorem l_dl_uni {m : qm} {D E : List Int} (h : l_dl m D) (g : l_dl m E) : D = E := by
  have hl : D.length = E.length := by have := h.1; have := g.1; omega
  apply List.ext_getElem? 
  intro i
  by_cases q : i < D.length
  · have a := h.2.2 i q
    have c := g.2.2 i (by omega)
    rw [a] at c
    rw [List.getD_eq_getElem?_getD, List.getD_eq_getElem?_getD, List.getElem?_eq_getElem q, List.getElem?_eq_getElem (by omega)] at c
    rw [List.getElem?_eq_getElem q, List.getElem?_eq_getElem (by omega)]
    exact congrArg some c
  · rw [List.getElem?_eq_none (by omega), List.getElem?_eq_none (by omega)]
section LAWC
variable {b : Int} {m : qm} {S : Int → Int} {lm : Int} {s : a_R} {D : List Int}
theorem sp_writeC {v : Int} (h : l_dl m D) : q_Ev yX2_write cX2_write 2 none 1 0 0 [(2, 149), (0, v)] (q_sh0, q_rb b, m) (qK (q_rb b) (fun _ m' => (∃ D', l_dl m' D' ∧ (D.length < 40 → D' = D ++ [v])) ∧ q_fx x_dr m m')) := by
  obtain ⟨h1, h2, h3⟩ := h
  refine q_enter (by decide +kernel) (by simp) (Nat.le_of_ble_eq_true rfl) ?_
  refine bkX2_write_0 (fun z => ⟨⟨D, ⟨h1, h2, h3⟩, fun y => by omega⟩, q_fx.rf⟩) (fun z => ⟨by omega, q_in_of (by omega) (by omega)⟩) (fun z => ⟨⟨D ++ [v], ⟨?_, ?_, fun i hi => ?_⟩, fun _ => rfl⟩, (q_fx.rf.up (Or.inr rfl)).up (Or.inl ⟨rfl, rfl⟩)⟩)
  · rw [q_up_s, h1, List.length_append]; rfl
  · rw [List.length_append]; show D.length + 1 ≤ 40; omega
  · rw [List.length_append] at hi
    have hi : i < D.length + 1 := hi
    rw [q_up_c (by decide), h1]
    by_cases q : i = D.length
    · rw [q, q_up_s, l_getD_end]
    · rw [q_up_i (by omega), l_getD_app (by omega)]; exact h3 i (by omega)
theorem sp_nextC {ch : Int} (h : c_R m S lm s) (z : t_is S lm s ch) (hc : 0 ≤ ch ∧ ch ≤ 127) : q_Ev yX6_next cX6_next 2 (some .int) 2 0 0 [(2, 145)] (q_sh0, q_rb b, m) (qK (q_rb b) (fun r m' => r = ch ∧ c_R m' S lm (s.1 + 1, s.2) ∧ q_fx x_rC m m')) := by
  have e3 := h.2.1
  obtain ⟨k1, k2, k3, -⟩ := h.2.2.2.1
  refine q_enter (by decide +kernel) (by simp) (Nat.le_of_ble_eq_true rfl) ?_
  refine bkX6_next_0 (sp_peekC h) ?_ ?_ ?_
  · rintro r m1 ⟨rfl, g, -⟩ _ y
    have := (g ch hc.1 hc.2).mpr z
    omega
  · rintro r m1 ⟨rfl, g, -⟩ _ y
    exact q_in_of (by omega) (by omega)
  · rintro r m1 ⟨rfl, g, -⟩ _ y
    have n := h.nx z.2.1
    exact ⟨(g ch hc.1 hc.2).mpr z, n.1, n.2⟩
theorem l_let_ix (i : Nat) (h : i < 10) : l_ix (q_let i) = i ∧ 0 ≤ q_let i ∧ q_let i ≤ 127 := by
  have : i = 0 ∨ i = 1 ∨ i = 2 ∨ i = 3 ∨ i = 4 ∨ i = 5 ∨ i = 6 ∨ i = 7 ∨ i = 8 ∨ i = 9 := by omega
  rcases this with rfl | rfl | rfl | rfl | rfl | rfl | rfl | rfl | rfl | rfl <;> decide
theorem l_ix_let (c : Int) (h : 0 ≤ l_ix c) : c = q_let (l_ix c).toNat := by
  unfold l_ix at h ⊢
  split at h
  · rename_i z; rw [z]; rfl
  split at h
  · rename_i z; rw [z]; rfl
  split at h
  · rename_i z; rw [z]; rfl
  split at h
  · rename_i z; rw [z]; rfl
  split at h
  · rename_i z; rw [z]; rfl
  split at h
  · rename_i z; rw [z]; rfl
  split at h
  · rename_i z; rw [z]; rfl
  split at h
  · rename_i z; rw [z]; rfl
  split at h
  · rename_i z; rw [z]; rfl
  split at h
  · rename_i z; rw [z]; rfl
  · omega
/-- what readLetter() leaves -/
def l_LP (S : Int → Int) (lm : Int) (s : a_R) (D : List Int) (m m' : qm) : Prop := ((t_lt S lm s ∧ c_R m' S lm (s.1 + 1, s.2)) ∨ (¬ t_lt S lm s ∧ c_R m' S lm (t_fl s s.1))) ∧ (∃ D', l_dl m' D' ∧ (t_lt S lm s → D.length < 40 → D' = D ++ [1000 + l_ix (S s.1)])) ∧ q_fx x_lwC m m'
theorem sp_letterC (h : c_R m S lm s) (hd : l_dl m D) : q_Ev yX2_readLetter cX2_readLetter 3 none 3 0 0 [(2, 149), (2, 145)] (q_sh0, q_rb b, m) (qK (q_rb b) (fun _ m' => l_LP S lm s D m m')) := by
  refine q_enter (by decide +kernel) (by simp) (Nat.le_of_ble_eq_true rfl) ?_
  have go : ∀ (d i : Nat) (m1 : qm), i + d = 10 → c_R m1 S lm s → q_fx x_rC m m1 → (∀ j : Nat, j < i → ¬ t_is S lm s (q_let j)) → q_At yX2_readLetter cX2_readLetter 3 none 3 0 0 (qK (q_rb b) (fun _ m' => l_LP S lm s D m m')) 2 [(2, 149), (2, 145), (0, (i : Int))] [] (q_sh0, q_rb b, m1) := by
    intro d
    induction d with
    | zero =>
      intro i m1 hi c f hn
      refine bkX2_readLetter_2 (P3 := fun _ _ => True) (P5 := fun _ _ _ _ => True) (fun _ => sp_failHereC c) ?_ (fun z => absurd z (by omega)) (fun z => absurd z (by omega)) (fun z => absurd z (by omega)) (fun z => absurd z (by omega)) (fun z => absurd z (by omega)) (fun z => absurd z (by omega)) (fun z => absurd z (by omega))
      rintro _ r2 m2 ⟨c2, f2⟩ _
      have nl : ¬ t_lt S lm s := fun q => hn (l_ix (S s.1)).toNat (by have := l_ix_r (S s.1); have := q.2.2; omega) ⟨q.1, q.2.1, l_ix_let _ q.2.2⟩
      refine ⟨Or.inr ⟨nl, c2⟩, ⟨D, hd.fr (f.tr f2) (by intro c i; unfold x_dr x_rC; omega), fun q => absurd q nl⟩, (f.tr f2).mono (fun c i z => Or.inl z)⟩
    | succ d ih =>
      intro i m1 hi c f hn
      have li := l_let_ix i (by omega)
      have hq : q_let ((i : Int)).toNat = q_let i := rfl
      refine bkX2_readLetter_2 (P2 := fun _ _ => True) (P5 := fun _ m3 _ m5 => (∃ D', l_dl m5 D' ∧ (D.length < 40 → D' = D ++ [1000 + (i : Int)])) ∧ q_fx x_dr m3 m5) (fun z => absurd z (by omega)) (fun z => absurd z (by omega)) (fun _ => by omega) (fun _ => sp_skipC c (by rw [hq]; exact li.2.1) (by rw [hq]; exact li.2.2)) (fun _ _ _ _ _ _ => q_in_of (by omega) (by omega)) ?_ (fun _ _ _ _ _ _ => q_in_of (by omega) (by omega)) ?_ ?_
      · rintro _ r3 m3 ⟨g, f3⟩ _ z
        have g := g.resolve_left (fun y => by omega)
        refine ih (i + 1) m3 (by omega) g.2.2 (f.tr f3) (fun j hj => ?_)
        by_cases q : j = i
        · rw [q]; exact g.2.1
        · exact hn j (by omega)
      · rintro _ r3 m3 ⟨g, f3⟩ _ z
        exact sp_writeC (hd.fr (f.tr f3) (by intro c i; unfold x_dr x_rC; omega))
      · rintro _ r3 m3 ⟨g, f3⟩ _ z r5 m5 ⟨⟨D', d1, d2⟩, f5⟩ _
        have g := g.resolve_right (fun y => by omega)
        have e : l_ix (S s.1) = i := by rw [g.2.1.2.2, hq]; exact li.1
        refine ⟨Or.inl ⟨⟨g.2.1.1, g.2.1.2.1, by omega⟩, g.2.2.fr f5 (by intro c i; unfold x_dr; omega)⟩, ⟨D', d1, fun _ y => by rw [e]; exact d2 y⟩, ((f.tr f3).mono (fun c i z => Or.inl z)).tr (f5.mono (fun c i z => Or.inr z))⟩
  exact bkX2_readLetter_0 (go 10 0 m (by omega) h q_fx.rf (fun j hj => by omega))
end LAWC
abbrev l_pre (S : Int → Int) (lm : Int) (s : a_R) (D : List Int) (m : qm) : Prop := c_R m S lm s ∧ l_dl m D ∧ (s.2 = -1 → (D.length : Int) ≤ s.1) ∧ lm ≤ 40
def l_Q (r : a_R × List Int) (S : Int → Int) (lm : Int) (D : List Int) (m m' : qm) : Prop := c_R m' S lm r.1 ∧ (∃ D', l_dl m' D' ∧ (r.1.2 = -1 → D' = D ++ r.2)) ∧ q_fx x_lwC m m'
def l_E (b : Int) (S : Int → Int) (lm : Int) (f md : Nat) (K : Int) (y : MethodName) (cc : ByteArray) (nL : Nat) : Prop := ∀ (w : Int) (s : a_R) (D : List Int) (m : qm) (d : Nat), 0 ≤ w → w ≤ 4 → l_pre S lm s D m → 8 * (lm - s.1) + l_rk md ≤ f → 5 * (4 - w) + K ≤ d → q_Ev y cc nL none d 0 0 [(2, 149), (2, 145), (0, w)] (q_sh0, q_rb b, m) (qK (q_rb b) (fun _ m' => l_Q (l_p S lm f md w s) S lm D m m'))
section LAWC2
variable {b : Int} {S : Int → Int} {lm : Int}
theorem cl_thing {f : Nat} (hC : l_E b S lm f 5 15 yX2_readComparison cX2_readComparison 4) : l_E b S lm (f + 1) 7 11 yX2_readThing cX2_readThing 3 := by
  intro w s D m d w0 w4 ⟨c, hd, hl, h40⟩ hm hdd
  have hm : 8 * (lm - s.1) + 1 ≤ (f : Int) + 1 := by have : l_rk 7 = 1 := rfl; omega
  obtain ⟨dd, rfl⟩ : ∃ dd, d = dd + 1 := ⟨d - 1, by omega⟩
  have ok := c.2.2.2.1
  have xr : ∀ c i, x_rC c i → x_lwC c i := fun c i z => Or.inl z
  have dfr : ∀ {m1 m2 : qm} {D : List Int}, l_dl m1 D → q_fx x_rC m1 m2 → l_dl m2 D := fun a f => a.fr f (by intro c i; unfold x_dr x_rC; omega)
  have let_ : ∀ m', l_LP S lm s D m m' → ¬ (t_is S lm s 40 ∧ w < 4) → ¬ t_dg S lm s → l_Q (l_p S lm (f + 1) 7 w s) S lm D m m' := by
    rintro m' ⟨a, ⟨D', d1, d2⟩, g⟩ n1 n2
    rw [l_p7, if_neg n1, if_neg n2]
    rcases a with ⟨a, e⟩ | ⟨a, e⟩
    · rw [if_pos a]
      exact ⟨e, ⟨D', d1, fun _ => d2 a (by have := hl a.1; have := a.2.1; omega)⟩, g⟩
    · rw [if_neg a]
      refine ⟨e, ⟨D', d1, fun y => ?_⟩, g⟩
      exfalso
      have y : (t_fl s s.1).2 = -1 := y
      by_cases q : s.2 = -1
      · rw [t_fl_ok q] at y; have := ok.1; have y : s.1 = -1 := y; omega
      · rw [t_fl_fl q] at y; exact q y
  refine q_enter (by decide +kernel) (by simp) (Nat.le_of_ble_eq_true rfl) ?_
  refine bkX2_readThing_0 (by omega) (P4 := fun _ _ _ m' => l_LP S lm s D m m') (P5 := fun _ m1 r m' => ((r = 1 ∧ t_is S lm s 40 ∧ c_R m' S lm (s.1 + 1, s.2)) ∨ (r = 0 ∧ ¬ t_is S lm s 40 ∧ c_R m' S lm s)) ∧ q_fx x_rC m m') (P7 := fun _ _ _ m5 _ m' => l_LP S lm s D m5 m') (P8 := fun _ _ _ m5 _ m' => l_Q (l_p S lm f 5 (w + 1) (s.1 + 1, s.2)) S lm D m5 m') (P9 := fun _ _ _ m5 _ m8 _ m' => c_R m' S lm (t_nd S lm 41 (l_p S lm f 5 (w + 1) (s.1 + 1, s.2)).1) ∧ q_fx x_rC m8 m') (P10 := fun _ _ r m' => r = (t_nm S lm 3 s).1 ∧ c_R m' S lm (t_nm S lm 3 s).2 ∧ q_fx x_rC m m') (P11 := fun _ _ _ m10 _ m' => (∃ D', l_dl m' D' ∧ (D.length < 40 → D' = D ++ [(t_nm S lm 3 s).1])) ∧ q_fx x_dr m10 m') (sp_seesDigitC c) ?_ ?_ ?_ ?_ ?_ (fun _ _ _ _ _ _ _ _ _ _ _ => q_in_of (by omega) (by omega)) ?_ ?_ ?_ ?_ ?_ ?_
  · rintro r1 m1 ⟨rfl, g⟩ _ z z2
    exact sp_letterC c hd
  · rintro r1 m1 ⟨rfl, g⟩ _ z z2 r4 m4 h4 _
    exact let_ m4 h4 (fun y => by omega) (g.resolve_left (fun y => by omega)).2
  · rintro r1 m1 ⟨rfl, g⟩ _ z z2
    exact sp_skipC c (by decide) (by decide)
  · rintro r1 m1 ⟨rfl, g⟩ _ z z2 r5 m5 ⟨g5, f5⟩ _ z5
    exact sp_letterC (g5.resolve_left (fun y => by omega)).2.2 (dfr hd f5)
  · rintro r1 m1 ⟨rfl, g⟩ _ z z2 r5 m5 ⟨g5, f5⟩ _ z5 r7 m7 h7 _
    have g5 := g5.resolve_left (fun y => by omega)
    exact let_ m7 ⟨h7.1, h7.2.1, (f5.mono xr).tr h7.2.2⟩ (fun y => g5.2.1 y.1) (g.resolve_left (fun y => by omega)).2
  · rintro r1 m1 ⟨rfl, g⟩ _ z z2 r5 m5 ⟨g5, f5⟩ _ z5
    have g5 := g5.resolve_right (fun y => by omega)
    exact hC (w + 1) (s.1 + 1, s.2) D m5 dd (by omega) (by omega) ⟨g5.2.2, dfr hd f5, fun y => by show (D.length : Int) ≤ s.1 + 1; have := hl y; omega, h40⟩ (by show 8 * (lm - (s.1 + 1)) + 5 ≤ (f : Int); omega) (by omega)
  · rintro r1 m1 ⟨rfl, g⟩ _ z z2 r5 m5 ⟨g5, f5⟩ _ z5 r8 m8 h8 _
    exact sp_needC h8.1 (by decide) (by decide)
  · rintro r1 m1 ⟨rfl, g⟩ _ z z2 r5 m5 ⟨g5, f5⟩ _ z5 r8 m8 ⟨c8, ⟨D', d1, d2⟩, f8⟩ _ r9 m9 ⟨c9, f9⟩ _
    have g5 := g5.resolve_right (fun y => by omega)
    rw [l_p7, if_pos ⟨g5.2.1, z2⟩]
    refine ⟨c9, ⟨D', dfr d1 f9, fun y => d2 (t_nd_s c8.2.2.2.1 y)⟩, ((f5.mono xr).tr f8).tr (f9.mono xr)⟩
  · rintro r1 m1 ⟨rfl, g⟩ _ z
    exact sp_numberC 3 (by decide) c
  · rintro r1 m1 ⟨rfl, g⟩ _ z r10 m10 ⟨e, c10, f10⟩ _
    rw [e]
    exact sp_writeC (dfr hd f10)
  · rintro r1 m1 ⟨rfl, g⟩ _ z r10 m10 ⟨e, c10, f10⟩ _ r11 m11 ⟨⟨D', d1, d2⟩, f11⟩ _
    have dg := (g.resolve_right (fun y => by omega)).2
    have n40 : ¬ (t_is S lm s 40 ∧ w < 4) := fun y => by have := y.1.2.2; have := dg.2.2; omega
    rw [l_p7, if_neg n40, if_pos dg]
    exact ⟨c10.fr f11 (by intro c i; unfold x_dr; omega), ⟨D', d1, fun _ => d2 (by have := hl dg.1; have := dg.2.1; omega)⟩, (f10.mono xr).tr (f11.mono (fun c i z => Or.inr z))⟩
theorem cl_signed {f : Nat} (hT : ∀ g, g ≤ f → l_E b S lm g 7 11 yX2_readThing cX2_readThing 3) : l_E b S lm (f + 1) 0 12 yX2_readSigned cX2_readSigned 5 := by
  intro w s D m d w0 w4 ⟨c, hd, hl, h40⟩ hm hdd
  have hm : 8 * (lm - s.1) + 2 ≤ (f : Int) + 1 := by have : l_rk 0 = 2 := rfl; omega
  obtain ⟨dd, rfl⟩ : ∃ dd, d = dd + 1 := ⟨d - 1, by omega⟩
  have k0 := c.2.2.2.1.1
  have xr : ∀ c i, x_rC c i → x_lwC c i := fun c i z => Or.inl z
  have dfr : ∀ {m1 m2 : qm} {D : List Int}, l_dl m1 D → q_fx x_rC m1 m2 → l_dl m2 D := fun a f => a.fr f (by intro c i; unfold x_dr x_rC; omega)
  refine q_enter (by decide +kernel) (by simp) (Nat.le_of_ble_eq_true rfl) ?_
  have go : ∀ (g i md : Nat) (v3 : Int) (m' : qm) (s' : a_R), ((md = 0 ∧ v3 = 0) ∨ (md = 6 ∧ v3 = 1 ∧ 1 ≤ i)) → g + i = f + 1 → s'.1 = s.1 + i → s'.2 = s.2 → c_R m' S lm s' → l_dl m' D → l_p S lm g md w s' = l_p S lm (f + 1) 0 w s → q_fx x_rC m m' →
      q_At yX2_readSigned cX2_readSigned 5 none (dd + 1) 0 0 (qK (q_rb b) (fun _ m' => l_Q (l_p S lm (f + 1) 0 w s) S lm D m m')) 5 [(2, 149), (2, 145), (0, w), (0, v3), (0, (i : Int))] [] (q_sh0, q_rb b, m') := by
    intro g
    induction g with
    | zero =>
      intro i md v3 m' s' hv hg hs1 hs2 c' d' he fx
      have := c'.2.2.2.1.2.1
      omega
    | succ g ih =>
      intro i md v3 m' s' hv hg hs1 hs2 c' d' he fx
      have ok' := c'.2.2.2.1
      have k2 := ok'.2.1
      have hlen : s'.2 = -1 → (D.length : Int) ≤ s.1 := fun y => hl (by rw [← hs2]; exact y)
      -- reading the thing itself
      have th : ∀ m5, c_R m5 S lm s' → l_dl m5 D → q_Ev yX2_readThing cX2_readThing 3 none dd 0 0 [(2, 149), (2, 145), (0, w)] (q_sh0, q_rb b, m5) (qK (q_rb b) (fun _ m' => l_Q (l_p S lm g 7 w s') S lm D m5 m')) := fun m5 c5 d5 =>
        hT g (by omega) w s' D m5 dd w0 w4 ⟨c5, d5, fun y => by have := hlen y; omega, h40⟩ (by show 8 * (lm - s'.1) + 1 ≤ (g : Int); omega) (by omega)
      have oT := l_ok (S := S) g 7 w s' (by decide) ok' (by show 8 * (lm - s'.1) + 1 ≤ (g : Int); omega)
      have fin0 : ∀ m5 m7, ¬ t_is S lm s' 45 → q_fx x_rC m m5 → v3 = 0 → l_Q (l_p S lm g 7 w s') S lm D m5 m7 → l_Q (l_p S lm (f + 1) 0 w s) S lm D m m7 := by
        intro m5 m7 ni f5 z h7
        have : md = 0 := by omega
        subst this
        rw [l_p0, if_neg ni] at he
        rw [← he]
        exact ⟨h7.1, h7.2.1, (f5.mono xr).tr h7.2.2⟩
      have fin6 : ∀ m5 m7 m9, ¬ t_is S lm s' 45 → q_fx x_rC m m5 → v3 ≠ 0 → l_Q (l_p S lm g 7 w s') S lm D m5 m7 → (∀ D7, l_dl m7 D7 → (∃ D', l_dl m9 D' ∧ (D7.length < 40 → D' = D7 ++ [2000]))) → q_fx x_dr m7 m9 → l_Q (l_p S lm (f + 1) 0 w s) S lm D m m9 := by
        rintro m5 m7 m9 ni f5 z ⟨c7, ⟨D7, d7, e7⟩, f7⟩ h9 f9
        have : md = 6 := by omega
        subst this
        rw [l_p6, if_neg ni] at he
        rw [← he]
        obtain ⟨D', p1, p2⟩ := h9 D7 d7
        refine ⟨c7.fr f9 (by intro c i; unfold x_dr; omega), ⟨D', p1, fun y => ?_⟩, ((f5.mono xr).tr f7).tr (f9.mono (fun c i z => Or.inr z))⟩
        have e7 := e7 y
        have o := oT.2.2 y
        have o2 : ((l_p S lm g 7 w s').2.length : Int) ≤ (l_p S lm g 7 w s').1.1 - s'.1 + 0 := o.2.1
        have lt40 : D7.length < 40 := by
          rw [e7, List.length_append]
          have := hlen o.1
          have := oT.1.2.1
          omega
        rw [p2 lt40, e7, List.append_assoc]
      refine bkX2_readSigned_5 (by omega) (P2 := fun _ m2 => l_Q (l_p S lm g 7 w s') S lm D m' m2) (P4 := fun _ m2 _ m4 => (∀ D7, l_dl m2 D7 → (∃ D', l_dl m4 D' ∧ (D7.length < 40 → D' = D7 ++ [2000]))) ∧ q_fx x_dr m2 m4) (P7 := fun _ m5 _ m7 => l_Q (l_p S lm g 7 w s') S lm D m5 m7) (P9 := fun _ _ _ m7 _ m9 => (∀ D7, l_dl m7 D7 → (∃ D', l_dl m9 D' ∧ (D7.length < 40 → D' = D7 ++ [2000]))) ∧ q_fx x_dr m7 m9)
        (fun _ => th m' c' d') ?_ ?_ ?_ (fun _ => sp_skipC c' (by decide) (by decide)) ?_ ?_ ?_ ?_ (fun _ _ _ _ _ _ _ => q_in_of (by omega) (by omega)) ?_ (fun _ _ _ _ _ _ _ => q_in_of (by omega) (by omega)) ?_
      · rintro z r2 m2 h2 _ z3
        exact fin0 m' m2 (fun y => by have := y.2.1; omega) fx z3 h2
      · rintro z r2 m2 ⟨c2, ⟨D2, d2, e2⟩, f2⟩ _ z3
        refine (sp_writeC d2).post (fun _ m4 y => ⟨fun D7 d7 => ?_, y.2⟩)
        have : D7 = D2 := l_dl_uni d7 d2
        subst this
        exact y.1
      · rintro z r2 m2 h2 _ z3 r4 m4 ⟨h4, f4⟩ _
        exact fin6 m' m2 m4 (fun y => by have := y.2.1; omega) fx z3 h2 h4 f4
      · rintro z r5 m5 ⟨g5, f5⟩ _ z5
        exact th m5 (g5.resolve_left (fun y => by omega)).2.2 (dfr d' f5)
      · rintro z r5 m5 ⟨g5, f5⟩ _ z5 r7 m7 h7 _ z3
        exact fin0 m5 m7 (g5.resolve_left (fun y => by omega)).2.1 (fx.tr f5) z3 h7
      · rintro z r5 m5 ⟨g5, f5⟩ _ z5 r7 m7 ⟨c7, ⟨D7, d7, e7⟩, f7⟩ _ z3
        refine (sp_writeC d7).post (fun _ m9 y => ⟨fun D8 d8 => ?_, y.2⟩)
        have : D8 = D7 := l_dl_uni d8 d7
        subst this
        exact y.1
      · rintro z r5 m5 ⟨g5, f5⟩ _ z5 r7 m7 h7 _ z3 r9 m9 ⟨h9, f9⟩ _
        exact fin6 m5 m7 m9 (g5.resolve_left (fun y => by omega)).2.1 (fx.tr f5) z3 h7 h9 f9
      · rintro z r5 m5 ⟨g5, f5⟩ _ z5 z3
        have g5 := g5.resolve_right (fun y => by omega)
        have : md = 6 := by omega
        subst this
        rw [l_p6, if_pos g5.2.1] at he
        exact ih (i + 1) 0 0 m5 (s'.1 + 1, s'.2) (Or.inl ⟨rfl, rfl⟩) (by omega) (by show s'.1 + 1 = s.1 + ((i + 1 : Nat) : Int); omega) hs2 g5.2.2 (dfr d' f5) he (fx.tr f5)
      · rintro z r5 m5 ⟨g5, f5⟩ _ z5 z3
        have g5 := g5.resolve_right (fun y => by omega)
        have : md = 0 := by omega
        subst this
        rw [l_p0, if_pos g5.2.1] at he
        exact ih (i + 1) 6 1 m5 (s'.1 + 1, s'.2) (Or.inr ⟨rfl, rfl, by omega⟩) (by omega) (by show s'.1 + 1 = s.1 + ((i + 1 : Nat) : Int); omega) hs2 g5.2.2 (dfr d' f5) he (fx.tr f5)
  exact bkX2_readSigned_0 (by omega) (go (f + 1) 0 0 0 m s (Or.inl ⟨rfl, rfl⟩) (by omega) (by omega) rfl c hd rfl q_fx.rf)
theorem cl_product {f : Nat} (hT : ∀ g, g ≤ f → l_E b S lm g 0 12 yX2_readSigned cX2_readSigned 5) : l_E b S lm (f + 1) 1 13 yX2_readProduct cX2_readProduct 5 := by
  intro w s D m d w0 w4 ⟨c, hd, hl, h40⟩ hm hdd
  have hm : 8 * (lm - s.1) + 3 ≤ (f : Int) + 1 := by have : l_rk 1 = 3 := rfl; omega
  obtain ⟨dd, rfl⟩ : ∃ dd, d = dd + 1 := ⟨d - 1, by omega⟩
  have xr : ∀ c i, x_rC c i → x_lwC c i := fun c i z => Or.inl z
  have dfr : ∀ {m1 m2 : qm} {D : List Int}, l_dl m1 D → q_fx x_rC m1 m2 → l_dl m2 D := fun a f => a.fr f (by intro c i; unfold x_dr x_rC; omega)
  refine q_enter (by decide +kernel) (by simp) (Nat.le_of_ble_eq_true rfl) ?_
  have go : ∀ (g : Nat) (i : Int) (m' : qm) (s' : a_R) (D' C : List Int), g ≤ f → 8 * (lm - s'.1) + 1 ≤ (g : Int) → 0 ≤ i → i ≤ s'.1 → c_R m' S lm s' → l_dl m' D' → (s'.2 = -1 → D' = D ++ C ∧ (D'.length : Int) ≤ s'.1) → l_p S lm (f + 1) 1 w s = ((l_p S lm g 2 w s').1, C ++ (l_p S lm g 2 w s').2) → q_fx x_lwC m m' →
      q_At yX2_readProduct cX2_readProduct 5 none (dd + 1) 0 0 (qK (q_rb b) (fun _ m' => l_Q (l_p S lm (f + 1) 1 w s) S lm D m m')) 8 [(2, 149), (2, 145), (0, w), (0, i), (4, 0)] [] (q_sh0, q_rb b, m') := by
    intro g
    induction g with
    | zero =>
      intro i m' s' D' C gf hg i0 i1 c' d' hD he fx
      have := c'.2.2.2.1.2.1
      omega
    | succ g ih =>
      intro i m' s' D' C gf hg i0 i1 c' d' hD he fx
      have ok' := c'.2.2.2.1
      have k2 := ok'.2.1
      have stop : ∀ m2, m2 = m' → ¬ (t_is S lm s' 42 ∨ t_is S lm s' 47) → l_Q (l_p S lm (f + 1) 1 w s) S lm D m m2 := by
        intro m2 e2 n
        rw [e2]
        rw [l_p2, if_neg n] at he
        rw [he]
        refine ⟨c', ⟨D', d', fun y => ?_⟩, fx⟩
        show D' = D ++ (C ++ [])
        rw [List.append_nil]; exact (hD y).1
      have on : ∀ ch, (ch = 42 ∨ ch = 47) → t_is S lm s' ch → q_At yX2_readProduct cX2_readProduct 5 none (dd + 1) 0 0 (qK (q_rb b) (fun _ m' => l_Q (l_p S lm (f + 1) 1 w s) S lm D m m')) 32 [(2, 149), (2, 145), (0, w), (0, i), (4, 0)] [] (q_sh0, q_rb b, m') := by
        intro ch hch hi
        have hor : t_is S lm s' 42 ∨ t_is S lm s' 47 := by rcases hch with rfl | rfl; exact Or.inl hi; exact Or.inr hi
        have hD1 := hD hi.1
        have oT := l_ok (S := S) g 0 w (s'.1 + 1, s'.2) (by decide) (ok'.nx (S := S) hi.2.1) (by show 8 * (lm - (s'.1 + 1)) + 2 ≤ (g : Int); omega)
        have oT2 : s'.1 + 1 ≤ (l_p S lm g 0 w (s'.1 + 1, s'.2)).1.1 := oT.2.1
        rw [l_p2, if_pos hor] at he
        refine bkX2_readProduct_32 (by omega) (P2 := fun _ m1 _ m2 => l_Q (l_p S lm g 0 w (s'.1 + 1, s'.2)) S lm D' m1 m2) (P3 := fun _ _ _ m2 _ m3 => (∀ D7, l_dl m2 D7 → (∃ D8, l_dl m3 D8 ∧ (D7.length < 40 → D8 = D7 ++ [3000 + ch]))) ∧ q_fx x_dr m2 m3) (sp_nextC c' hi (by omega)) ?_ ?_ ?_ (fun _ _ _ _ _ _ _ _ _ _ _ _ => q_in_of (by omega) (by omega)) ?_
        · rintro r1 m1 ⟨e1, c1, f1⟩ _
          exact hT g (by omega) w (s'.1 + 1, s'.2) D' m1 dd w0 w4 ⟨c1, dfr d' f1, fun y => by show (D'.length : Int) ≤ s'.1 + 1; omega, h40⟩ (by show 8 * (lm - (s'.1 + 1)) + 2 ≤ (g : Int); omega) (by omega)
        · rintro r1 m1 ⟨e1, c1, f1⟩ _ _ _ _ _
          exact q_in_of (by omega) (by omega)
        · rintro r1 m1 ⟨e1, c1, f1⟩ _ r2 m2 ⟨c2, ⟨D2, d2, e2⟩, f2⟩ _
          rw [e1]
          refine (sp_writeC d2).post (fun _ m9 y => ⟨fun D8 d8 => ?_, y.2⟩)
          have : D8 = D2 := l_dl_uni d8 d2
          subst this
          exact y.1
        · rintro r1 m1 ⟨e1, c1, f1⟩ _ r2 m2 ⟨c2, ⟨D2, d2, e2⟩, f2⟩ _ r3 m3 ⟨h3, f3⟩ _
          obtain ⟨D3, d3, e3⟩ := h3 D2 d2
          refine ih (i + 1) m3 (l_p S lm g 0 w (s'.1 + 1, s'.2)).1 D3 (C ++ (l_p S lm g 0 w (s'.1 + 1, s'.2)).2 ++ [3000 + ch]) (by omega) (by omega) (by omega) (by omega) (c2.fr f3 (by intro c i; unfold x_dr; omega)) d3 (fun y => ?_) ?_ (((fx.tr (f1.mono xr)).tr f2).tr (f3.mono (fun c i z => Or.inr z)))
          · have e2 := e2 y
            have o := oT.2.2 y
            have o2 : ((l_p S lm g 0 w (s'.1 + 1, s'.2)).2.length : Int) ≤ (l_p S lm g 0 w (s'.1 + 1, s'.2)).1.1 - (s'.1 + 1) + 0 := o.2.1
            have len2 : D2.length = D'.length + (l_p S lm g 0 w (s'.1 + 1, s'.2)).2.length := by rw [e2, List.length_append]
            have := oT.1.2.1
            have e3 := e3 (by omega)
            refine ⟨?_, ?_⟩
            · rw [e3, e2, hD1.1, List.append_assoc, List.append_assoc, List.append_assoc]
            · rw [e3, List.length_append]; show ((D2.length + 1 : Nat) : Int) ≤ _; omega
          · rw [he, hi.2.2, List.append_assoc, List.append_assoc]; rfl
      refine bkX2_readProduct_8 (by omega) (P2 := fun r m2 => m2 = m' ∧ ((r = 1 ∧ t_is S lm s' 42) ∨ (r = 0 ∧ ¬ t_is S lm s' 42))) (P4 := fun _ _ r m4 => m4 = m' ∧ ((r = 1 ∧ t_is S lm s' 47) ∨ (r = 0 ∧ ¬ t_is S lm s' 47))) (fun z => stop m' rfl (fun y => by rcases y with y | y <;> (have := y.2.1; omega))) (fun _ => sp_seesC c' (by decide) (by decide)) ?_ ?_ ?_ ?_
      · rintro z r2 m2 ⟨rfl, h2⟩ _ z2
        exact on 42 (Or.inl rfl) (h2.resolve_right (fun y => by omega)).2
      · rintro z r2 m2 ⟨rfl, h2⟩ _ z2
        exact sp_seesC c' (by decide) (by decide)
      · rintro z r2 m2 ⟨rfl, h2⟩ _ z2 r4 m4 ⟨e4, h4⟩ _ z4
        exact stop m4 e4 (fun y => by
          rcases y with y | y
          · exact (h2.resolve_left (fun y => by omega)).2 y
          · exact (h4.resolve_left (fun y => by omega)).2 y)
      · rintro z r2 m2 ⟨rfl, h2⟩ _ z2 r4 m4 ⟨e4, h4⟩ _ z4
        rw [e4]
        exact on 47 (Or.inr rfl) (h4.resolve_right (fun y => by omega)).2
  have o1 := l_ok (S := S) f 0 w s (by decide) c.2.2.2.1 (by show 8 * (lm - s.1) + 2 ≤ (f : Int); omega)
  refine bkX2_readProduct_0 (by omega) (hT f (Nat.le_refl _) w s D m dd w0 w4 ⟨c, hd, hl, h40⟩ (by show 8 * (lm - s.1) + 2 ≤ (f : Int); omega) (by omega)) ?_
  rintro r1 m1 ⟨c1, ⟨D1, d1, e1⟩, f1⟩ _
  have := o1.1.2.1
  have := o1.1.1
  refine go f 0 m1 (l_p S lm f 0 w s).1 D1 (l_p S lm f 0 w s).2 (Nat.le_refl _) (by have := o1.2.1; omega) (by decide) (by omega) c1 d1 (fun y => ⟨e1 y, ?_⟩) rfl f1
  rw [e1 y, List.length_append]
  have o := o1.2.2 y
  have o2 : ((l_p S lm f 0 w s).2.length : Int) ≤ (l_p S lm f 0 w s).1.1 - s.1 + 0 := o.2.1
  have := hl o.1
  omega
theorem cl_sum {f : Nat} (hT : ∀ g, g ≤ f → l_E b S lm g 1 13 yX2_readProduct cX2_readProduct 5) : l_E b S lm (f + 1) 3 14 yX2_readSum cX2_readSum 5 := by
  intro w s D m d w0 w4 ⟨c, hd, hl, h40⟩ hm hdd
  have hm : 8 * (lm - s.1) + 4 ≤ (f : Int) + 1 := by have : l_rk 3 = 4 := rfl; omega
  obtain ⟨dd, rfl⟩ : ∃ dd, d = dd + 1 := ⟨d - 1, by omega⟩
  have xr : ∀ c i, x_rC c i → x_lwC c i := fun c i z => Or.inl z
  have dfr : ∀ {m1 m2 : qm} {D : List Int}, l_dl m1 D → q_fx x_rC m1 m2 → l_dl m2 D := fun a f => a.fr f (by intro c i; unfold x_dr x_rC; omega)
  refine q_enter (by decide +kernel) (by simp) (Nat.le_of_ble_eq_true rfl) ?_
  have go : ∀ (g : Nat) (i : Int) (m' : qm) (s' : a_R) (D' C : List Int), g ≤ f → 8 * (lm - s'.1) + 1 ≤ (g : Int) → 0 ≤ i → i ≤ s'.1 → c_R m' S lm s' → l_dl m' D' → (s'.2 = -1 → D' = D ++ C ∧ (D'.length : Int) ≤ s'.1) → l_p S lm (f + 1) 3 w s = ((l_p S lm g 4 w s').1, C ++ (l_p S lm g 4 w s').2) → q_fx x_lwC m m' →
      q_At yX2_readSum cX2_readSum 5 none (dd + 1) 0 0 (qK (q_rb b) (fun _ m' => l_Q (l_p S lm (f + 1) 3 w s) S lm D m m')) 8 [(2, 149), (2, 145), (0, w), (0, i), (4, 0)] [] (q_sh0, q_rb b, m') := by
    intro g
    induction g with
    | zero =>
      intro i m' s' D' C gf hg i0 i1 c' d' hD he fx
      have := c'.2.2.2.1.2.1
      omega
    | succ g ih =>
      intro i m' s' D' C gf hg i0 i1 c' d' hD he fx
      have ok' := c'.2.2.2.1
      have k2 := ok'.2.1
      have stop : ∀ m2, m2 = m' → ¬ (t_is S lm s' 43 ∨ t_is S lm s' 45) → l_Q (l_p S lm (f + 1) 3 w s) S lm D m m2 := by
        intro m2 e2 n
        rw [e2]
        rw [l_p4, if_neg n] at he
        rw [he]
        refine ⟨c', ⟨D', d', fun y => ?_⟩, fx⟩
        show D' = D ++ (C ++ [])
        rw [List.append_nil]; exact (hD y).1
      have on : ∀ ch, (ch = 43 ∨ ch = 45) → t_is S lm s' ch → q_At yX2_readSum cX2_readSum 5 none (dd + 1) 0 0 (qK (q_rb b) (fun _ m' => l_Q (l_p S lm (f + 1) 3 w s) S lm D m m')) 32 [(2, 149), (2, 145), (0, w), (0, i), (4, 0)] [] (q_sh0, q_rb b, m') := by
        intro ch hch hi
        have hor : t_is S lm s' 43 ∨ t_is S lm s' 45 := by rcases hch with rfl | rfl; exact Or.inl hi; exact Or.inr hi
        have hD1 := hD hi.1
        have oT := l_ok (S := S) g 1 w (s'.1 + 1, s'.2) (by decide) (ok'.nx (S := S) hi.2.1) (by show 8 * (lm - (s'.1 + 1)) + 3 ≤ (g : Int); omega)
        have oT2 : s'.1 + 1 ≤ (l_p S lm g 1 w (s'.1 + 1, s'.2)).1.1 := oT.2.1
        rw [l_p4, if_pos hor] at he
        refine bkX2_readSum_32 (by omega) (P2 := fun _ m1 _ m2 => l_Q (l_p S lm g 1 w (s'.1 + 1, s'.2)) S lm D' m1 m2) (P3 := fun _ _ _ m2 _ m3 => (∀ D7, l_dl m2 D7 → (∃ D8, l_dl m3 D8 ∧ (D7.length < 40 → D8 = D7 ++ [3000 + ch]))) ∧ q_fx x_dr m2 m3) (sp_nextC c' hi (by omega)) ?_ ?_ ?_ (fun _ _ _ _ _ _ _ _ _ _ _ _ => q_in_of (by omega) (by omega)) ?_
        · rintro r1 m1 ⟨e1, c1, f1⟩ _
          exact hT g (by omega) w (s'.1 + 1, s'.2) D' m1 dd w0 w4 ⟨c1, dfr d' f1, fun y => by show (D'.length : Int) ≤ s'.1 + 1; omega, h40⟩ (by show 8 * (lm - (s'.1 + 1)) + 3 ≤ (g : Int); omega) (by omega)
        · rintro r1 m1 ⟨e1, c1, f1⟩ _ _ _ _ _
          exact q_in_of (by omega) (by omega)
        · rintro r1 m1 ⟨e1, c1, f1⟩ _ r2 m2 ⟨c2, ⟨D2, d2, e2⟩, f2⟩ _
          rw [e1]
          refine (sp_writeC d2).post (fun _ m9 y => ⟨fun D8 d8 => ?_, y.2⟩)
          have : D8 = D2 := l_dl_uni d8 d2
          subst this
          exact y.1
        · rintro r1 m1 ⟨e1, c1, f1⟩ _ r2 m2 ⟨c2, ⟨D2, d2, e2⟩, f2⟩ _ r3 m3 ⟨h3, f3⟩ _
          obtain ⟨D3, d3, e3⟩ := h3 D2 d2
          refine ih (i + 1) m3 (l_p S lm g 1 w (s'.1 + 1, s'.2)).1 D3 (C ++ (l_p S lm g 1 w (s'.1 + 1, s'.2)).2 ++ [3000 + ch]) (by omega) (by omega) (by omega) (by omega) (c2.fr f3 (by intro c i; unfold x_dr; omega)) d3 (fun y => ?_) ?_ (((fx.tr (f1.mono xr)).tr f2).tr (f3.mono (fun c i z => Or.inr z)))
          · have e2 := e2 y
            have o := oT.2.2 y
            have o2 : ((l_p S lm g 1 w (s'.1 + 1, s'.2)).2.length : Int) ≤ (l_p S lm g 1 w (s'.1 + 1, s'.2)).1.1 - (s'.1 + 1) + 0 := o.2.1
            have len2 : D2.length = D'.length + (l_p S lm g 1 w (s'.1 + 1, s'.2)).2.length := by rw [e2, List.length_append]
            have := oT.1.2.1
            have e3 := e3 (by omega)
            refine ⟨?_, ?_⟩
            · rw [e3, e2, hD1.1, List.append_assoc, List.append_assoc, List.append_assoc]
            · rw [e3, List.length_append]; show ((D2.length + 1 : Nat) : Int) ≤ _; omega
          · rw [he, hi.2.2, List.append_assoc, List.append_assoc]; rfl
      refine bkX2_readSum_8 (by omega) (P2 := fun r m2 => m2 = m' ∧ ((r = 1 ∧ t_is S lm s' 43) ∨ (r = 0 ∧ ¬ t_is S lm s' 43))) (P4 := fun _ _ r m4 => m4 = m' ∧ ((r = 1 ∧ t_is S lm s' 45) ∨ (r = 0 ∧ ¬ t_is S lm s' 45))) (fun z => stop m' rfl (fun y => by rcases y with y | y <;> (have := y.2.1; omega))) (fun _ => sp_seesC c' (by decide) (by decide)) ?_ ?_ ?_ ?_
      · rintro z r2 m2 ⟨rfl, h2⟩ _ z2
        exact on 43 (Or.inl rfl) (h2.resolve_right (fun y => by omega)).2
      · rintro z r2 m2 ⟨rfl, h2⟩ _ z2
        exact sp_seesC c' (by decide) (by decide)
      · rintro z r2 m2 ⟨rfl, h2⟩ _ z2 r4 m4 ⟨e4, h4⟩ _ z4
        exact stop m4 e4 (fun y => by
          rcases y with y | y
          · exact (h2.resolve_left (fun y => by omega)).2 y
          · exact (h4.resolve_left (fun y => by omega)).2 y)
      · rintro z r2 m2 ⟨rfl, h2⟩ _ z2 r4 m4 ⟨e4, h4⟩ _ z4
        rw [e4]
        exact on 45 (Or.inr rfl) (h4.resolve_right (fun y => by omega)).2
  have o1 := l_ok (S := S) f 1 w s (by decide) c.2.2.2.1 (by show 8 * (lm - s.1) + 3 ≤ (f : Int); omega)
  refine bkX2_readSum_0 (by omega) (hT f (Nat.le_refl _) w s D m dd w0 w4 ⟨c, hd, hl, h40⟩ (by show 8 * (lm - s.1) + 3 ≤ (f : Int); omega) (by omega)) ?_
  rintro r1 m1 ⟨c1, ⟨D1, d1, e1⟩, f1⟩ _
  have := o1.1.2.1
  have := o1.1.1
  refine go f 0 m1 (l_p S lm f 1 w s).1 D1 (l_p S lm f 1 w s).2 (Nat.le_refl _) (by have := o1.2.1; omega) (by decide) (by omega) c1 d1 (fun y => ⟨e1 y, ?_⟩) rfl f1
  rw [e1 y, List.length_append]
  have o := o1.2.2 y
  have o2 : ((l_p S lm f 1 w s).2.length : Int) ≤ (l_p S lm f 1 w s).1.1 - s.1 + 0 := o.2.1
  have := hl o.1
  omega
theorem cl_comp {f : Nat} (hT : l_E b S lm f 3 14 yX2_readSum cX2_readSum 5) : l_E b S lm (f + 1) 5 15 yX2_readComparison cX2_readComparison 4 := by
  intro w s D m d w0 w4 ⟨c, hd, hl, h40⟩ hm hdd
  have hm : 8 * (lm - s.1) + 5 ≤ (f : Int) + 1 := by have : l_rk 5 = 5 := rfl; omega
  obtain ⟨dd, rfl⟩ : ∃ dd, d = dd + 1 := ⟨d - 1, by omega⟩
  have xr : ∀ c i, x_rC c i → x_lwC c i := fun c i z => Or.inl z
  have dfr : ∀ {m1 m2 : qm} {D : List Int}, l_dl m1 D → q_fx x_rC m1 m2 → l_dl m2 D := fun a f => a.fr f (by intro c i; unfold x_dr x_rC; omega)
  have o1 := l_ok (S := S) f 3 w s (by decide) c.2.2.2.1 (by show 8 * (lm - s.1) + 4 ≤ (f : Int); omega)
  refine q_enter (by decide +kernel) (by simp) (Nat.le_of_ble_eq_true rfl) ?_
  have he : l_p S lm (f + 1) 5 w s = _ := l_p5
  generalize hR : l_p S lm f 3 w s = R at o1 he
  have stop : ∀ m1, c_R m1 S lm R.1 → (∃ D', l_dl m1 D' ∧ (R.1.2 = -1 → D' = D ++ R.2)) → q_fx x_lwC m m1 → ¬ (t_is S lm R.1 60 ∨ t_is S lm R.1 62 ∨ t_is S lm R.1 61) → l_Q (l_p S lm (f + 1) 5 w s) S lm D m m1 := by
    intro m1 c1 d1 f1 n
    rw [if_neg n] at he
    rw [he]
    exact ⟨c1, d1, f1⟩
  have on : ∀ ch m1, (ch = 60 ∨ ch = 62 ∨ ch = 61) → t_is S lm R.1 ch → c_R m1 S lm R.1 → (∃ D', l_dl m1 D' ∧ (R.1.2 = -1 → D' = D ++ R.2)) → q_fx x_lwC m m1 → q_At yX2_readComparison cX2_readComparison 4 none (dd + 1) 0 0 (qK (q_rb b) (fun _ m' => l_Q (l_p S lm (f + 1) 5 w s) S lm D m m')) 33 [(2, 149), (2, 145), (0, w), (4, 0)] [] (q_sh0, q_rb b, m1) := by
    rintro ch m1 hch hi c1 ⟨D1, d1, e1⟩ f1
    have hor : t_is S lm R.1 60 ∨ t_is S lm R.1 62 ∨ t_is S lm R.1 61 := by rcases hch with rfl | rfl | rfl; exact Or.inl hi; exact Or.inr (Or.inl hi); exact Or.inr (Or.inr hi)
    have e1 := e1 hi.1
    have k1 := o1.1.1
    have o12 := o1.2.1
    have len1 : (D1.length : Int) ≤ R.1.1 := by
      rw [e1, List.length_append]
      have o := o1.2.2 hi.1
      have o2 : (R.2.length : Int) ≤ R.1.1 - s.1 + 0 := o.2.1
      have := hl o.1
      omega
    have oT := l_ok (S := S) f 3 w (R.1.1 + 1, R.1.2) (by decide) (o1.1.nx (S := S) hi.2.1) (by show 8 * (lm - (R.1.1 + 1)) + 4 ≤ (f : Int); omega)
    rw [if_pos hor] at he
    rw [he]
    refine bkX2_readComparison_33 (by omega) (P2 := fun _ m1 _ m2 => l_Q (l_p S lm f 3 w (R.1.1 + 1, R.1.2)) S lm D1 m1 m2) (P3 := fun _ _ _ m2 _ m3 => (∀ D7, l_dl m2 D7 → (∃ D8, l_dl m3 D8 ∧ (D7.length < 40 → D8 = D7 ++ [3000 + ch]))) ∧ q_fx x_dr m2 m3) (sp_nextC c1 hi (by omega)) ?_ ?_ ?_ ?_
    · rintro r2 m2 ⟨e2, c2, f2⟩ _
      exact hT w (R.1.1 + 1, R.1.2) D1 m2 dd w0 w4 ⟨c2, dfr d1 f2, fun y => by show (D1.length : Int) ≤ R.1.1 + 1; omega, h40⟩ (by show 8 * (lm - (R.1.1 + 1)) + 4 ≤ (f : Int); omega) (by omega)
    · rintro r2 m2 ⟨e2, c2, f2⟩ _ _ _ _ _
      exact q_in_of (by omega) (by omega)
    · rintro r2 m2 ⟨e2, c2, f2⟩ _ r3 m3 ⟨c3, ⟨D3, d3, e3⟩, f3⟩ _
      rw [e2]
      refine (sp_writeC d3).post (fun _ m9 y => ⟨fun D8 d8 => ?_, y.2⟩)
      have : D8 = D3 := l_dl_uni d8 d3
      subst this
      exact y.1
    · rintro r2 m2 ⟨e2, c2, f2⟩ _ r3 m3 ⟨c3, ⟨D3, d3, e3⟩, f3⟩ _ r4 m4 ⟨h4, f4⟩ _
      obtain ⟨D4, d4, e4⟩ := h4 D3 d3
      refine ⟨c3.fr f4 (by intro c i; unfold x_dr; omega), ⟨D4, d4, fun y => ?_⟩, ((f1.tr (f2.mono xr)).tr f3).tr (f4.mono (fun c i z => Or.inr z))⟩
      have e3 := e3 y
      have o := oT.2.2 y
      have o2 : ((l_p S lm f 3 w (R.1.1 + 1, R.1.2)).2.length : Int) ≤ (l_p S lm f 3 w (R.1.1 + 1, R.1.2)).1.1 - (R.1.1 + 1) + 0 := o.2.1
      have len3 : D3.length = D1.length + (l_p S lm f 3 w (R.1.1 + 1, R.1.2)).2.length := by rw [e3, List.length_append]
      have := oT.1.2.1
      rw [e4 (by omega), e3, e1, hi.2.2, List.append_assoc, List.append_assoc, List.append_assoc]
  refine bkX2_readComparison_0 (by omega) (P1 := fun _ m1 => l_Q R S lm D m m1) (P2 := fun _ m1 r m2 => m2 = m1 ∧ ((r = 1 ∧ t_is S lm R.1 60) ∨ (r = 0 ∧ ¬ t_is S lm R.1 60))) (P4 := fun _ m1 _ _ r m4 => m4 = m1 ∧ ((r = 1 ∧ t_is S lm R.1 62) ∨ (r = 0 ∧ ¬ t_is S lm R.1 62))) (P6 := fun _ m1 _ _ _ _ r m6 => m6 = m1 ∧ ((r = 1 ∧ t_is S lm R.1 61) ∨ (r = 0 ∧ ¬ t_is S lm R.1 61))) ?_ ?_ ?_ ?_ ?_ ?_ ?_ ?_
  · rw [← hR]; exact hT w s D m dd w0 w4 ⟨c, hd, hl, h40⟩ (by show 8 * (lm - s.1) + 4 ≤ (f : Int); omega) (by omega)
  · rintro r1 m1 ⟨c1, d1, f1⟩ _
    exact sp_seesC c1 (by decide) (by decide)
  · rintro r1 m1 ⟨c1, d1, f1⟩ _ r2 m2 ⟨rfl, h2⟩ _ z
    exact on 60 m2 (Or.inl rfl) (h2.resolve_right (fun y => by omega)).2 c1 d1 f1
  · rintro r1 m1 ⟨c1, d1, f1⟩ _ r2 m2 ⟨rfl, h2⟩ _ z
    exact sp_seesC c1 (by decide) (by decide)
  · rintro r1 m1 ⟨c1, d1, f1⟩ _ r2 m2 ⟨rfl, h2⟩ _ z r4 m4 ⟨rfl, h4⟩ _ z4
    exact on 62 m4 (Or.inr (Or.inl rfl)) (h4.resolve_right (fun y => by omega)).2 c1 d1 f1
  · rintro r1 m1 ⟨c1, d1, f1⟩ _ r2 m2 ⟨rfl, h2⟩ _ z r4 m4 ⟨rfl, h4⟩ _ z4
    exact sp_seesC c1 (by decide) (by decide)
  · rintro r1 m1 ⟨c1, d1, f1⟩ _ r2 m2 ⟨rfl, h2⟩ _ z r4 m4 ⟨rfl, h4⟩ _ z4 r6 m6 ⟨rfl, h6⟩ _ z6
    refine stop m6 c1 d1 f1 (fun y => ?_)
    rcases y with y | y | y
    · exact (h2.resolve_left (fun y => by omega)).2 y
    · exact (h4.resolve_left (fun y => by omega)).2 y
    · exact (h6.resolve_left (fun y => by omega)).2 y
  · rintro r1 m1 ⟨c1, d1, f1⟩ _ r2 m2 ⟨rfl, h2⟩ _ z r4 m4 ⟨rfl, h4⟩ _ z4 r6 m6 ⟨rfl, h6⟩ _ z6
    exact on 61 m6 (Or.inr (Or.inr rfl)) (h6.resolve_right (fun y => by omega)).2 c1 d1 f1
theorem cl_lp : ∀ f : Nat, (∀ g, g ≤ f → l_E b S lm g 7 11 yX2_readThing cX2_readThing 3) ∧ (∀ g, g ≤ f → l_E b S lm g 0 12 yX2_readSigned cX2_readSigned 5) ∧ (∀ g, g ≤ f → l_E b S lm g 1 13 yX2_readProduct cX2_readProduct 5) ∧ (∀ g, g ≤ f → l_E b S lm g 3 14 yX2_readSum cX2_readSum 5) ∧ (∀ g, g ≤ f → l_E b S lm g 5 15 yX2_readComparison cX2_readComparison 4) := by
  have no : ∀ (md : Nat) (K : Int) (y : MethodName) (cc : ByteArray) (nL : Nat), 1 ≤ l_rk md → l_E b S lm 0 md K y cc nL := by
    intro md K y cc nL hr w s D m d w0 w4 h hm
    have := h.1.2.2.2.1.2.1
    omega
  intro f
  induction f with
  | zero =>
    refine ⟨fun g hg => ?_, fun g hg => ?_, fun g hg => ?_, fun g hg => ?_, fun g hg => ?_⟩ <;> (obtain rfl : g = 0 := by omega) <;> exact no _ _ _ _ _ (by decide)
  | succ f ih =>
    obtain ⟨i1, i2, i3, i4, i5⟩ := ih
    refine ⟨fun g hg => ?_, fun g hg => ?_, fun g hg => ?_, fun g hg => ?_, fun g hg => ?_⟩
    · by_cases h : g ≤ f
      · exact i1 g h
      · obtain rfl : g = f + 1 := by omega
        exact cl_thing (i5 f (Nat.le_refl _))
    · by_cases h : g ≤ f
      · exact i2 g h
      · obtain rfl : g = f + 1 := by omega
        exact cl_signed i1
    · by_cases h : g ≤ f
      · exact i3 g h
      · obtain rfl : g = f + 1 := by omega
        exact cl_product i2
    · by_cases h : g ≤ f
      · exact i4 g h
      · obtain rfl : g = f + 1 := by omega
        exact cl_sum i3
    · by_cases h : g ≤ f
      · exact i5 g h
      · obtain rfl : g = f + 1 := by omega
        exact cl_comp (i4 f (Nat.le_refl _))
end LAWC2
