/-! ===== what can be undone ===== -/
def u_C (m m' : qm) : Prop := m' 33 1 = (m 33 1 + 1) % 12 ∧ m' 33 2 = min 12 (m 33 2 + 1) ∧ w_cp m 5 m' (35 + 9 * m 33 1) ∧ ∀ c i, 35 ≤ c → c ≤ 142 → ¬ (35 + 9 * m 33 1 ≤ c ∧ c < 44 + 9 * m 33 1) → m' c i = m c i
def u_M (m m' : qm) : Prop := m' 188 30 = min 12 (m 188 30 + 1) ∧ (∀ r i, 0 ≤ r → r < m' 188 30 - 1 → 0 ≤ i → i < 597 → m' 204 (597 * r + i) = m 204 (597 * (r + (if m 188 30 = 12 then 1 else 0)) + i)) ∧ ∀ i, 0 ≤ i → i < 597 → m' 204 (597 * (m' 188 30 - 1) + i) = y_L m i
abbrev x_Cr (c i : Int) : Prop := (c = 33 ∧ (i = 1 ∨ i = 2)) ∨ (35 ≤ c ∧ c ≤ 142)
abbrev x_Mr (c i : Int) : Prop := c = 204 ∨ (c = 188 ∧ i = 30)
theorem u_C.fr {m m' m'' : qm} {X : Int → Int → Prop} (h : u_C m m') (h1 : 0 ≤ m 33 1 ∧ m 33 1 < 12) (hf : q_fx X m' m'') (hd : ∀ c i, x_Cr c i → ¬ X c i) : u_C m m'' := by
  have e : ∀ c i, x_Cr c i → m'' c i = m' c i := fun c i z => hf c i (hd c i z)
  obtain ⟨a, b, c, d⟩ := h
  refine ⟨(e 33 1 (by decide)).trans a, (e 33 2 (by decide)).trans b, c.fr (X := fun c i => ¬ x_Cr c i) (fun c i z => e c i (Classical.byContradiction fun y => z y)) (fun c i z => ?_), fun c i c0 c1 z => (e c i (by unfold x_Cr; omega)).trans (d c i c0 c1 z)⟩
  intro y; apply y; unfold w_z at z; unfold x_Cr; omega
theorem u_M.fr {m m' m'' : qm} {X : Int → Int → Prop} (h : u_M m m') (hf : q_fx X m' m'') (hd : ∀ c i, x_Mr c i → ¬ X c i) : u_M m m'' := by
  have e : ∀ c i, x_Mr c i → m'' c i = m' c i := fun c i z => hf c i (hd c i z)
  obtain ⟨a, b, c⟩ := h
  have e1 := e 188 30 (by decide)
  exact ⟨by omega, fun r i r0 r1 i0 i1 => (e _ _ (by unfold x_Mr; omega)).trans (b r i r0 (by omega) i0 i1), fun i i0 i1 => by rw [e _ _ (by unfold x_Mr; omega), e1]; exact c i i0 i1⟩
theorem u_M.ba {m0 m m' : qm} {X : Int → Int → Prop} (h : u_M m m') (hf : q_fx X m0 m) (hd : ∀ c i, x_Mr c i ∨ c = 190 ∨ c = 195 ∨ c = 196 ∨ c = 197 ∨ (c = 188 ∧ 10 ≤ i ∧ i ≤ 12) → ¬ X c i) : u_M m0 m' := by
  have e : ∀ c i, x_Mr c i → m c i = m0 c i := fun c i z => hf c i (hd c i (Or.inl z))
  obtain ⟨a, b, c⟩ := h
  have e1 := e 188 30 (by decide)
  refine ⟨by omega, fun r i r0 r1 i0 i1 => ?_, fun i i0 i1 => (c i i0 i1).trans (y_L_fr hf (fun c i z => hd c i (Or.inr z)) i)⟩
  rw [b r i r0 r1 i0 i1, e1, e 204 _ (by unfold x_Mr; omega)]
theorem sp_rememberC {b : Int} {mem : qm} (h1 : 0 ≤ mem 33 1 ∧ mem 33 1 < 12) (h2 : 0 ≤ mem 33 2 ∧ mem 33 2 ≤ 12) (h9 : mem 5 9 = 0 ∨ mem 5 9 = 1) : q_Ev yX3_remember cX3_remember 2 none 2 0 0 [(2, 33), (2, 5)] (q_sh0, q_rb b, mem) (qK (q_rb b) (fun _ m => u_C mem m ∧ q_fx x_Cr mem m)) := by
  refine q_enter (by decide +kernel) (by simp) (Nat.le_of_ble_eq_true rfl) ?_
  refine bkX3_remember_0 q_st5 h1 (sp_copyWater (q_st34 h1) q_st5 (by omega) h9) ?_ ?_
  · rintro r m ⟨w, f⟩ _
    rw [f 33 1 (by unfold w_z; omega), f 33 2 (by unfold w_z; omega)]
    exact ⟨q_in_of (by omega) (by omega), q_in_of (by omega) (by omega)⟩
  · rintro r m ⟨w, f⟩ _
    rw [f 33 1 (by unfold w_z; omega), f 33 2 (by unfold w_z; omega), q_orem_nn (by omega) (by omega) (by decide) (by decide)]
    have g : q_fx (fun c i => c = 33 ∧ (i = 1 ∨ i = 2)) m (q_up (q_up m 33 1 ((mem 33 1 + 1) % 12)) 33 2 (min 12 (mem 33 2 + 1))) := (q_fx.rf.up ⟨rfl, Or.inl rfl⟩).up ⟨rfl, Or.inr rfl⟩
    refine ⟨⟨by rw [q_up_i (by decide), q_up_s], q_up_s, w.fr g (fun c i z => by unfold w_z at z; omega), fun c i c0 c1 z => (g _ _ (by omega)).trans (f _ _ (by unfold w_z; omega))⟩, (f.mono (fun c i z => ?_)).tr (g.mono (fun c i z => Or.inl z))⟩
    unfold w_z at z; unfold x_Cr; omega
theorem sp_rememberM {b : Int} {mem : qm} (h : 0 ≤ mem 188 30 ∧ mem 188 30 ≤ 12) : q_Ev yX12_remember cX12_remember 2 none 2 0 0 [(2, 188)] (q_sh0, q_rb b, mem) (qK (q_rb b) (fun _ m => u_M mem m ∧ q_fx x_Mr mem m)) := by
  refine q_enter (by decide +kernel) (by simp) (Nat.le_of_ble_eq_true rfl) ?_
  refine bkX12_remember_0 (fun _ => q_in_of (by omega) (by omega)) (fun z => sp_lay (N := 7164) qs204 (by decide) (by omega) (by decide)) (fun z r m h2 _ => ?_) (fun z r m h2 _ => ?_) (fun z => ?_)
  · rw [h2.2 188 30 (by omega)]; exact q_in_of (by omega) (by omega)
  · obtain ⟨a, f⟩ := h2
    have e := f 188 30 (by omega)
    have g : q_fx (fun c i => c = 188 ∧ i = 30) m (q_up m 188 30 (m 188 30 + 1)) := q_fx.rf.up ⟨rfl, rfl⟩
    have e2 : q_up m 188 30 (m 188 30 + 1) 188 30 = mem 188 30 + 1 := by rw [q_up_s, e]
    refine ⟨⟨by rw [e2]; omega, fun r i r0 r1 i0 i1 => ?_, fun i i0 i1 => ?_⟩, (f.mono (fun c i z => Or.inl z.1)).tr (g.mono (fun c i z => Or.inr z))⟩
    · rw [e2] at r1
      rw [if_neg z, Int.add_zero, g _ _ (by omega), f _ _ (by omega)]
    · rw [e2, g _ _ (by omega), show mem 188 30 + 1 - 1 = mem 188 30 by omega]; exact a i i0 i1
  · refine q_for (A := fun i m => q_At yX12_remember cX12_remember 2 none 2 0 0 _ 11 [(2, 188), (0, i)] [] (q_sh0, q_rb b, m)) (fun i m => 0 ≤ i ∧ i ≤ 6567 ∧ (∀ x, 0 ≤ x → x < i → m 204 x = mem 204 (x + 597)) ∧ (∀ x, i ≤ x → m 204 x = mem 204 x) ∧ q_fx (fun c _ => c = 204) mem m) 6567 ?_ ?_ 0 mem ⟨by omega, by omega, fun x x0 x1 => absurd x0 (by omega), fun _ _ => rfl, q_fx.rf⟩
    · rintro i m hi ⟨i0, i1, a1, a2, f1⟩
      have e := f1 188 30 (by omega)
      rw [z] at e
      refine bkX12_remember_11 (fun _ => by rw [e]; exact ⟨q_in_of (by omega) (by omega), q_in_of (by omega) (by omega)⟩) (P2 := fun _ m2 => (∀ i, 0 ≤ i → i < 597 → m2 204 (6567 + i) = y_L (q_up m 188 30 11) i) ∧ q_fx (fun c' i => c' = 204 ∧ 6567 ≤ i ∧ i < 6567 + 597) (q_up m 188 30 11) m2) (fun _ => ?_) (fun _ r m2 h2 _ => ?_) (fun _ r m2 h2 _ => ?_) (fun z => absurd z (by omega)) (fun z => absurd z (by omega))
      · rw [e, show (597 : Int) * (12 - 1) = 6567 by decide, show (12 : Int) - 1 = 11 by decide]
        exact sp_lay (N := 7164) qs204 (by decide) (by decide) (by decide)
      · rw [h2.2 188 30 (by omega), q_up_s]; exact q_in_of (by decide) (by decide)
      · obtain ⟨b1, f2⟩ := h2
        have e3 : m2 188 30 = 11 := by rw [f2 188 30 (by omega), q_up_s]
        have g : q_fx (fun c i => c = 188 ∧ i = 30) m2 (q_up m2 188 30 (m2 188 30 + 1)) := q_fx.rf.up ⟨rfl, rfl⟩
        have e2 : q_up m2 188 30 (m2 188 30 + 1) 188 30 = 12 := by rw [q_up_s, e3]; decide
        have g1 : q_fx (fun c i => c = 188 ∧ i = 30) m (q_up m 188 30 11) := q_fx.rf.up ⟨rfl, rfl⟩
        refine ⟨⟨by rw [e2, z]; decide, fun r i r0 r1 i0 i1 => ?_, fun i i0 i1 => ?_⟩, ((f1.mono (fun c i z => Or.inl z)).tr (g1.mono (fun c i z => Or.inr z))).tr ((f2.mono (fun c i z => Or.inl z.1)).tr (g.mono (fun c i z => Or.inr z)))⟩
        · rw [e2] at r1
          rw [if_pos z, g _ _ (by omega), f2 _ _ (by omega), g1 _ _ (by omega), a1 _ (by omega) (by omega)]
          congr 1; omega
        · rw [e2, g _ _ (by omega), show (597 : Int) * (12 - 1) + i = 6567 + i by omega, b1 i i0 i1, y_L_fr g1 (by omega), y_L_fr f1 (by omega)]
    · rintro i m hi ⟨i0, i1, a1, a2, f1⟩ ih
      refine bkX12_remember_11 (P2 := fun _ _ => True) (fun z => absurd z (by omega)) (fun z => absurd z (by omega)) (fun z => absurd z (by omega)) (fun z => absurd z (by omega)) (fun _ => ⟨q_in_of (by omega) (by omega), by omega, by omega, q_in_of (by omega) (by omega)⟩) (fun _ => ?_)
      rw [a2 _ (by omega)]
      refine ih _ ⟨by omega, by omega, fun x x0 x1 => ?_, fun x x0 => by rw [q_up_i (by omega)]; exact a2 x (by omega), f1.up rfl⟩
      by_cases hx : x = i
      · subst hx; exact q_up_s
      · rw [q_up_i hx]; exact a1 x x0 (by omega)
theorem i_Y.cg {B : Int} {m m' : qm} {s s' n c p c' p' : Int} {hd hd' : Int → Int} (h : i_Y B m s n c p hd) (hn : n ≤ 9) (hl : ∀ j, 0 ≤ j → j < n → hd j ≤ 60 ∧ hd' j = hd j) (hc : w_cp m s m' s') (he : ∀ i, 0 ≤ i → i < 597 → m' c' (p' + i) = m c (p + i)) : i_Y B m' s' n c' p' hd' := by
  obtain ⟨w, v⟩ := h
  have h1 : ∀ i, 0 ≤ i → i < 540 → m' c' (p' + i) = m c (p + i) := fun i i0 i1 => he i i0 (by omega)
  have h2 : ∀ j, 0 ≤ j → j < n → m' c' (p' + 540 + 2 * j) = m c (p + 540 + 2 * j) ∧ m' c' (p' + 540 + 2 * j + 1) = m c (p + 540 + 2 * j + 1) := fun j j0 j1 => by
    have a := he (540 + 2 * j) (by omega) (by omega)
    have b := he (540 + 2 * j + 1) (by omega) (by omega)
    rw [show p' + 540 + 2 * j = p' + (540 + 2 * j) by omega, show p + 540 + 2 * j = p + (540 + 2 * j) by omega, show p' + (540 + 2 * j) + 1 = p' + (540 + 2 * j + 1) by omega, show p + (540 + 2 * j) + 1 = p + (540 + 2 * j + 1) by omega]
    exact ⟨a, b⟩
  have h3 : ∀ d, 0 ≤ d → d < 36 → m' c' (p' + 558 + d) = m c (p + 558 + d) := fun d d0 d1 => by
    have a := he (558 + d) (by omega) (by omega)
    rw [show p' + 558 + d = p' + (558 + d) by omega, show p + 558 + d = p + (558 + d) by omega]
    exact a
  exact ⟨w.cg hn (fun j j0 j1 => Int.le_trans (v.1 j j0 j1).2.1 (hl j j0 j1).1) hc h1 h2 h3 (he 594 (by decide) (by decide)) (he 595 (by decide) (by decide)) (he 596 (by decide) (by decide)), v.cg hn hl h1 h2 h3 (he 594 (by decide) (by decide)) (he 595 (by decide) (by decide)) (he 596 (by decide) (by decide))⟩
theorem i_Y.of {B : Int} {n : Nat} {m m' : qm} {s' c' p' : Int} {hd' : Int → Int} (t : i_T n m) (a : i_N B n m) (hl : ∀ j : Int, 0 ≤ j → j < n → hd' j = m 189 j) (hc : w_cp m 5 m' s') (he : ∀ i, 0 ≤ i → i < 597 → m' c' (p' + i) = y_L m i) : i_Y B m' s' n c' p' hd' := by
  obtain ⟨w, v⟩ := a
  have hn : (n : Int) ≤ 9 := by have := t.1; omega
  have hl2 : ∀ j : Int, 0 ≤ j → j < n → m 189 j ≤ 60 ∧ hd' j = m 189 j := fun j j0 j1 => ⟨(t.2.2.2 j j0 j1).2.2.2.2.1, hl j j0 j1⟩
  have h1 : ∀ i, 0 ≤ i → i < 540 → m' c' (p' + i) = m 196 i := fun i i0 i1 => (he i i0 (by omega)).trans (y_L0 i1)
  have h2 : ∀ j : Int, 0 ≤ j → j < n → m' c' (p' + 540 + 2 * j) = m 190 j ∧ m' c' (p' + 540 + 2 * j + 1) = m 195 j := fun j j0 j1 => by
    have a := he (540 + 2 * j) (by omega) (by omega)
    have b := he (540 + 2 * j + 1) (by omega) (by omega)
    rw [show p' + 540 + 2 * j = p' + (540 + 2 * j) by omega, show p' + (540 + 2 * j) + 1 = p' + (540 + 2 * j + 1) by omega]
    exact ⟨a.trans (y_L1 j0 (by omega)), b.trans (y_L2 j0 (by omega))⟩
  have h3 : ∀ d, 0 ≤ d → d < 36 → m' c' (p' + 558 + d) = m 197 d := fun d d0 d1 => by
    have a := he (558 + d) (by omega) (by omega)
    rw [show p' + 558 + d = p' + (558 + d) by omega]
    exact a.trans (y_L3 d0 d1)
  exact ⟨w.cg hn (fun j j0 j1 => Int.le_trans (v.1 j j0 j1).2.1 (hl2 j j0 j1).1) hc h1 h2 h3 ((he 594 (by decide) (by decide)).trans y_L4) ((he 595 (by decide) (by decide)).trans y_L5) ((he 596 (by decide) (by decide)).trans y_L6), v.cg hn hl2 h1 h2 h3 ((he 594 (by decide) (by decide)).trans y_L4) ((he 595 (by decide) (by decide)).trans y_L5) ((he 596 (by decide) (by decide)).trans y_L6)⟩
/-- water brought back -/
theorem i_Y.to {B : Int} {n : Nat} {m m' : qm} {s c p : Int} (t : i_T n m) (h : i_Y B m s n c p (m 189)) (hl : ∀ j : Int, 0 ≤ j → j < n → m' 189 j = m 189 j) (hc : w_cp m s m' 5) (he : y_B m' (fun i => m c (p + i))) : i_N B n m' := by
  obtain ⟨w, v⟩ := h
  obtain ⟨e1, e2, e3, e4, e5, e6⟩ := he
  have hn : (n : Int) ≤ 9 := by have := t.1; omega
  have hl2 : ∀ j : Int, 0 ≤ j → j < n → m 189 j ≤ 60 ∧ m' 189 j = m 189 j := fun j j0 j1 => ⟨(t.2.2.2 j j0 j1).2.2.2.2.1, hl j j0 j1⟩
  have h2 : ∀ j : Int, 0 ≤ j → j < n → m' 190 j = m c (p + 540 + 2 * j) ∧ m' 195 j = m c (p + 540 + 2 * j + 1) := fun j j0 j1 => by
    rw [show p + 540 + 2 * j = p + (540 + 2 * j) by omega, show p + (540 + 2 * j) + 1 = p + (540 + 2 * j + 1) by omega]
    exact e2 j j0 (by omega)
  have h3 : ∀ d, 0 ≤ d → d < 36 → m' 197 d = m c (p + 558 + d) := fun d d0 d1 => by
    rw [show p + 558 + d = p + (558 + d) by omega]
    exact e3 d d0 d1
  exact ⟨w.cg hn (fun j j0 j1 => Int.le_trans (v.1 j j0 j1).2.1 (hl2 j j0 j1).1) hc e1 h2 h3 e4 e5 e6, v.cg hn hl2 e1 h2 h3 e4 e5 e6⟩
theorem i_U.rem {B : Int} {n : Nat} {m m' : qm} (t : i_T n m) (a : i_N B n m) (u : i_U B n m) (hC : u_C m m') (hM : u_M m m') (h189 : ∀ j, m' 189 j = m 189 j) : i_U B n m' := by
  obtain ⟨u1, u2, u3, u4, u5, u6⟩ := u
  have c1 := hC.1
  have c2 := hC.2.1
  have m1 := hM.1
  have hn : (n : Int) ≤ 9 := by have := t.1; omega
  have hl2 : ∀ j : Int, 0 ≤ j → j < n → m 189 j ≤ 60 ∧ m' 189 j = m 189 j := fun j j0 j1 => ⟨(t.2.2.2 j j0 j1).2.2.2.2.1, h189 j⟩
  refine ⟨by omega, by omega, by omega, by omega, by omega, fun r r0 r1 => ?_⟩
  by_cases hr : r = m' 188 30 - 1
  · rw [show (m' 33 1 + 12 - m' 188 30 + r) % 12 = m 33 1 by omega]
    exact i_Y.of t a (fun j _ _ => h189 j) hC.2.2.1 (fun i i0 i1 => by rw [hr]; exact hM.2.2 i i0 i1)
  · generalize hr' : r + (if m 188 30 = 12 then 1 else 0) = r'
    have hb : 0 ≤ r' ∧ r' < m 188 30 := by split at hr' <;> omega
    have hs : (m' 33 1 + 12 - m' 188 30 + r) % 12 = (m 33 1 + 12 - m 188 30 + r') % 12 := by split at hr' <;> omega
    have hne : (m 33 1 + 12 - m 188 30 + r') % 12 ≠ m 33 1 := by split at hr' <;> omega
    rw [hs]
    refine (u6 r' hb.1 hb.2).cg hn hl2 (w_cp.rf.fr (X := fun c i => ¬ (35 ≤ c ∧ c ≤ 142 ∧ ¬ (35 + 9 * m 33 1 ≤ c ∧ c < 44 + 9 * m 33 1))) (fun c i z => ?_) (fun c i z => ?_)) (fun i i0 i1 => ?_)
    · have z := Classical.not_not.mp z
      exact hC.2.2.2 c i z.1 z.2.1 z.2.2
    · unfold w_z at z
      omega
    · have := hM.2.1 r i r0 (by omega) i0 i1
      rw [hr'] at this
      exact this
/-! undo -/
abbrev x_Un (c i : Int) : Prop := w_z 5 c i ∨ (c = 33 ∧ (i = 1 ∨ i = 2)) ∨ (c = 188 ∧ (i = 17 ∨ i = 30 ∨ (10 ≤ i ∧ i ≤ 12))) ∨ c = 190 ∨ c = 195 ∨ c = 196 ∨ c = 197
theorem op_undo {LW : qm → Prop} (hL : i_Lf LW) {k : Nat} {b : Int} {m : qm} (I : i_I LW k m) :
    q_Ev yX11_undo cX11_undo 1 (some .int) 3 0 0 [(2, 0)] (q_sh0, q_rb b, m) (qK (q_rb b) (fun r m1 => q_Ev yX12_undo cX12_undo 1 (some .int) 2 0 0 [(2, 188)] (q_sh0, q_rb b, m1) (i_O LW (k + 1) r))) := by
  have I2 := I
  obtain ⟨n, t, p, a, x, r, s, u, kk, l⟩ := I2
  have hb : (1500 * (k : Int)) ≤ 1500 * ((k + 1 : Nat) : Int) := by omega
  obtain ⟨u1, u2, u3, u4, u5, u6⟩ := u
  refine q_enter (by decide +kernel) (by simp) (Nat.le_of_ble_eq_true rfl) ?_
  refine bkX11_undo_0 (P2 := fun _ m2 => w_cp m (35 + 9 * ((m 33 1 + 11) % 12)) m2 5 ∧ m2 33 1 = (m 33 1 + 11) % 12 ∧ m2 33 2 = m 33 2 - 1 ∧ q_fx (fun c i => w_z 5 c i ∨ (c = 33 ∧ (i = 1 ∨ i = 2))) m m2) (fun z => ?_) (fun z r2 m2 h2 _ => ?_) (fun z => ?_)
  · refine q_enter (by decide +kernel) (by simp) (Nat.le_of_ble_eq_true rfl) ?_
    have e : q_oirem (m 33 1 + 12 - 1) 12 = (m 33 1 + 11) % 12 := by rw [q_orem_nn (by omega) (by omega) (by decide) (by decide)]; congr 1; omega
    have hq : 0 ≤ (m 33 1 + 11) % 12 ∧ (m 33 1 + 11) % 12 < 12 := by omega
    refine bkX3_bringBack_0 q_st5 (by rw [e]; exact ⟨q_in_of (by omega) (by omega), q_in_of (by omega) (by omega), hq⟩) (P1 := fun _ m1 => w_cp (q_up m 33 1 ((m 33 1 + 11) % 12)) (35 + 9 * ((m 33 1 + 11) % 12)) m1 5 ∧ q_fx (w_z 5) (q_up m 33 1 ((m 33 1 + 11) % 12)) m1) ?_ ?_ ?_
    · rw [e]
      refine sp_copyWater q_st5 (q_st34 hq) (by omega) ?_
      rw [q_up_c (by omega)]
      have y := u6 (m 188 30 - 1) (by omega) (by omega)
      rw [show (m 33 1 + 12 - m 188 30 + (m 188 30 - 1)) % 12 = (m 33 1 + 11) % 12 by omega] at y
      rw [y.1.2.2.2.2.2]
      split
      · exact Or.inr rfl
      · exact Or.inl rfl
    · rintro r1 m1 ⟨w, f⟩ _
      rw [f 33 2 (by unfold w_z; omega), q_up_i (by decide)]
      exact q_in_of (by omega) (by omega)
    · rintro r1 m1 ⟨w, f⟩ _
      have g0 : q_fx (fun c i => c = 33 ∧ i = 1) m (q_up m 33 1 ((m 33 1 + 11) % 12)) := q_fx.rf.up ⟨rfl, rfl⟩
      have g : q_fx (fun c i => c = 33 ∧ i = 2) m1 (q_up m1 33 2 (m1 33 2 - 1)) := q_fx.rf.up ⟨rfl, rfl⟩
      refine ⟨?_, ?_, ?_, ((g0.mono (fun c i z => Or.inr ⟨z.1, Or.inl z.2⟩)).tr (f.mono (fun c i z => Or.inl z))).tr (g.mono (fun c i z => Or.inr ⟨z.1, Or.inr z.2⟩))⟩
      · refine (w_cp.tr ?_ w).fr g (fun c i z => by unfold w_z at z; omega)
        exact w_cp.rf.fr g0 (fun c i z => by unfold w_z at z; omega)
      · rw [g _ _ (by omega), f _ _ (by unfold w_z; omega), q_up_s]
      · rw [q_up_s, f 33 2 (by unfold w_z; omega), q_up_i (by decide)]
  · obtain ⟨w, h1, h3, f⟩ := h2
    have e30 : m2 188 30 = m 188 30 := f _ _ (by unfold w_z; omega)
    refine i_O_of (b := b) (q_enter (by decide +kernel) (by simp) (Nat.le_of_ble_eq_true rfl) ?_)
    have g0 : q_fx (fun c i => c = 188 ∧ (i = 17 ∨ i = 30)) m2 (q_up (q_up m2 188 17 0) 188 30 (m2 188 30 - 1)) := (q_fx.rf.up ⟨rfl, Or.inl rfl⟩).up ⟨rfl, Or.inr rfl⟩
    refine bkX12_undo_0 (fun _ => by rw [e30]; exact ⟨q_in_of (by omega) (by omega), q_in_of (by omega) (by omega)⟩) (fun _ => sp_bring (N := 7164) qs204 (by decide) (by rw [e30]; omega) (by decide)) (fun _ r4 m4 h4 _ => ?_) (fun z2 => absurd z2 (by omega))
    obtain ⟨y, f4⟩ := h4
    have e4 : m4 188 30 = m 188 30 - 1 := by rw [f4 _ _ (by omega), q_up_s, e30]
    have F : q_fx x_Un m m4 := ((f.mono (fun c i z => by unfold x_Un; rcases z with z | z; exact Or.inl z; exact Or.inr (Or.inl z))).tr (g0.mono (fun c i z => by unfold x_Un w_z; omega))).tr (f4.mono (fun c i z => by unfold x_Un w_z; omega))
    have eC : ∀ c i, c < 188 → m4 c i = m2 c i := fun c i hc => (f4 _ _ (by omega)).trans (g0 _ _ (by omega))
    have e204 : ∀ i, m4 204 i = m 204 i := fun i => F _ _ (by unfold x_Un w_z; omega)
    refine ⟨by omega, n, t.fr F (by intro c i; unfold x_T x_Un w_z; omega), p.fr F (by intro c i; unfold x_P x_Un w_z; omega), ?_, x.fr F (by intro c i; unfold x_X x_Un w_z; omega), r.fr F (by intro c i; unfold x_R x_Un w_z; omega), s.fr F (by intro c i; unfold x_S x_Un w_z; omega), ?_, (kk.fr F (by intro c i; unfold x_K x_Un w_z; omega)).mo hb, hL _ _ _ l F (by intro c i; unfold x_L x_Un w_z; omega)⟩
    · have y0 := u6 (m 188 30 - 1) (by omega) (by omega)
      rw [show (m 33 1 + 12 - m 188 30 + (m 188 30 - 1)) % 12 = (m 33 1 + 11) % 12 by omega] at y0
      refine (i_Y.to t y0 (fun j _ _ => F _ _ (by unfold x_Un w_z; omega)) (w.fr (X := fun c _ => 188 ≤ c) (fun c i z => eC c i (by omega)) (fun c i z => by unfold w_z at z; omega)) ?_).mo hb
      have : (fun i => q_up (q_up m2 188 17 0) 188 30 (m2 188 30 - 1) 204 (597 * (m2 188 30 - 1) + i)) = fun i => m 204 (597 * (m 188 30 - 1) + i) := funext fun i => by rw [g0 _ _ (by omega), f _ _ (by unfold w_z; omega), e30]
      rw [this] at y
      exact y
    · have a1 : m4 33 1 = (m 33 1 + 11) % 12 := (eC _ _ (by decide)).trans h1
      have a2 : m4 33 2 = m 33 2 - 1 := (eC _ _ (by decide)).trans h3
      refine ⟨by omega, by omega, by omega, by omega, by omega, fun q q0 q1 => ?_⟩
      rw [show (m4 33 1 + 12 - m4 188 30 + q) % 12 = (m 33 1 + 12 - m 188 30 + q) % 12 by omega, show m4 189 = m 189 from funext fun j => F _ _ (by unfold x_Un w_z; omega)]
      exact ((u6 q q0 (by omega)).fr (fun c i z => F _ _ (by unfold x_Un w_z; omega))).mo hb
  · refine i_O_of (b := b) (q_enter (by decide +kernel) (by simp) (Nat.le_of_ble_eq_true rfl) ?_)
    exact bkX12_undo_0 (P2 := fun _ _ => True) (fun z2 => absurd (by omega) z2) (fun z2 => absurd (by omega) z2) (fun z2 => absurd (by omega) z2) (fun _ => ⟨rfl, I.no hL⟩)
