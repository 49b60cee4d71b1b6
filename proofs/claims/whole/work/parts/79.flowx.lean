/-! ===== flows from any start ===== -/
def f_c0 (n : Nat) (m : qm) (u c h : Int → Int) (x : f_S) : Prop := m 1 3 = n ∧ m 26 8 = 0 ∧ f_en n (m 29) u ∧ f_en n (m 2) c ∧ f_en n (m 28) h ∧ f_eq n (f_C m) x
def f_cl (n : Nat) (m : qm) (u c h : Int → Int) (x : f_S) : Prop := f_wf n m ∧ f_en n (m 29) u ∧ f_en n (m 2) c ∧ f_en n (m 28) h ∧ f_eq n (f_C m) x
theorem f_en.sy {n : Nat} {a b : Int → Int} (h : f_en n a b) : f_en n b a := fun j x y => (h j x y).symm
theorem f_c0.cl {n : Nat} {m : qm} {u c h : Int → Int} {x : f_S} (g : f_c0 n m u c h x) (ok : f_OK n u c h x) : f_cl n m u c h x := ⟨⟨g.1, ok.en g.2.2.1.sy g.2.2.2.1.sy g.2.2.2.2.1.sy g.2.2.2.2.2.sy, Or.inl g.2.1⟩, g.2.2.1, g.2.2.2.1, g.2.2.2.2.1, g.2.2.2.2.2⟩
def a_x0 (A : a_W) : f_S := (A.1.1, A.1.2.1, 0)
theorem a_OK0 {B : Int} {n : Nat} {T : a_T} {A : a_W} (t : a_TV n T) (v : a_V B n T.1 A) : f_OK n T.2.2.2.2 T.1 T.2.2.2.1 (a_x0 A) := a_OK t v
abbrev x_f (c i : Int) : Prop := 26 ≤ c ∧ c ≤ 32
abbrev x_g (c i : Int) : Prop := c = 202 ∨ (207 ≤ c ∧ c ≤ 209) ∨ (c = 188 ∧ i = 36)
theorem sp_startW {b : Int} {m : qm} {n : Nat} {T : a_T} {A : a_W} (cT : c_T m n T) (cW : c_W m 5 n A) (h9 : n ≤ 9) : q_Ev yX1_start cX1_start 2 none 2 0 0 [(2, 26), (2, 5)] (q_sh0, q_rb b, m) (qK (q_rb b) (fun _ m1 => f_c0 n m1 T.2.2.2.2 T.1 T.2.2.2.1 (a_x0 A) ∧ (∀ i, 0 ≤ i → i < 9 → m1 32 i = -1) ∧ q_fx x_f m m1)) := by
  refine (sp_start q_st5).post ?_
  rintro r m1 ⟨h, h2, h3, hf⟩
  have f : q_fx x_f m m1 := hf.fx (by intro c hc i; simp at hc; unfold x_f; omega)
  refine ⟨⟨(f _ _ (by unfold x_f; omega)).trans cT.1, h3, fun j a b => (h j a (by omega)).2.2.1.trans (cT.2.2.2.2.2 j a b), fun j a b => (f _ _ (by unfold x_f; omega)).trans (cT.2.1 j a b), fun j a b => (h j a (by omega)).2.1.trans (cT.2.2.2.2.1 j a b), fun j a b => ⟨(h j a (by omega)).1.trans (cW.lv j a b), (h j a (by omega)).2.2.2.1.trans (cW.1 j a b).2⟩, h2⟩, fun i a b => (h i a b).2.2.2.2, f⟩
theorem sp_strikeF {b : Int} {m : qm} {n : Nat} {u c h : Int → Int} {x : f_S} (g : f_cl n m u c h x) (hl : 0 ≤ x.2.2 ∧ x.2.2 < 100000000) : q_Ev yX1_strike cX1_strike 4 none 2 0 0 [(2, 26)] (q_sh0, q_rb b, m) (qK (q_rb b) (fun _ m1 => f_cl n m1 u c h (f_b n u c h x) ∧ q_fx (fun c i => c = 26 ∨ c = 27 ∨ c = 30 ∨ c = 31) m m1)) := by
  obtain ⟨wf, g1, g2, g3, g4⟩ := g
  have e : m 26 7 = x.2.2 := g4.2
  refine (sp_strike' n wf (by omega)).post ?_
  rintro r m1 ⟨h1, h2, hf⟩
  have f : q_fx (fun c i => c = 26 ∨ c = 27 ∨ c = 30 ∨ c = 31) m m1 := hf.fx (by intro c hc i; simp at hc; omega)
  exact ⟨⟨h2, fun j a b => (f _ _ (by omega)).trans (g1 j a b), fun j a b => (f _ _ (by omega)).trans (g2 j a b), fun j a b => (f _ _ (by omega)).trans (g3 j a b), h1.tr (f_b_en wf.2.1 g1 g2 g3 g4)⟩, f⟩
theorem sp_allF {b : Int} {m : qm} {n : Nat} {u c h : Int → Int} {x : f_S} (g : f_cl n m u c h x) (k : Nat) (hl : 0 ≤ x.2.2 ∧ x.2.2 + 81 * k < 100000000) : q_Ev yX1_strikeAll cX1_strikeAll 3 none 3 0 0 [(2, 26), (0, (k : Int))] (q_sh0, q_rb b, m) (qK (q_rb b) (fun _ m1 => f_cl n m1 u c h (f_it n u c h k x) ∧ q_fx (fun c i => c = 26 ∨ c = 27 ∨ c = 30 ∨ c = 31) m m1)) := by
  obtain ⟨wf, g1, g2, g3, g4⟩ := g
  have e : m 26 7 = x.2.2 := g4.2
  refine (sp_strikeAll n k wf (by omega)).post ?_
  rintro r m1 ⟨h1, h2, hf⟩
  have f : q_fx (fun c i => c = 26 ∨ c = 27 ∨ c = 30 ∨ c = 31) m m1 := hf.fx (by intro c hc i; simp at hc; omega)
  exact ⟨⟨h2, fun j a b => (f _ _ (by omega)).trans (g1 j a b), fun j a b => (f _ _ (by omega)).trans (g2 j a b), fun j a b => (f _ _ (by omega)).trans (g3 j a b), h1.tr (f_it_en wf.2.1 g1 g2 g3 g4 k)⟩, f⟩
def f_rl (n : Nat) (m : qm) (u c h : Int → Int) (x : f_S) (y : Int) : Prop := m 188 0 = n ∧ f_en n (m 194) u ∧ f_en n (m 189) c ∧ f_en n (m 209) h ∧ f_eq n (f_M m y) x
theorem f_rl.mok {n : Nat} {m : qm} {u c h : Int → Int} {x : f_S} {y : Int} (g : f_rl n m u c h x y) (ok : f_OK n u c h x) : f_mok n m := ⟨g.1, ok.en (y := f_M m y) g.2.1.sy g.2.2.1.sy g.2.2.2.1.sy g.2.2.2.2.sy⟩
theorem sp_beginW {b : Int} {m : qm} {n : Nat} {T : a_T} {A : a_W} (rT : r_T m n T) (rW : r_W m n A) (h9 : n ≤ 9) : q_Ev yX12_begin_ cX12_begin_ 2 none 1 0 0 [(2, 188)] (q_sh0, q_rb b, m) (qK (q_rb b) (fun _ m1 => f_rl n m1 T.2.2.2.2 T.1 T.2.2.2.1 (a_x0 A) 0 ∧ q_fx (fun c i => 207 ≤ c ∧ c ≤ 209) m m1)) := by
  refine (sp_begin n rT.1 h9).post ?_
  rintro r m1 ⟨h, hf⟩
  have f : q_fx (fun c i => 207 ≤ c ∧ c ≤ 209) m m1 := hf.fx (by intro c hc i; simp at hc; omega)
  exact ⟨⟨(f _ _ (by omega)).trans rT.1, fun j a b => (f _ _ (by omega)).trans (rT.2.2.2.2.2 j a b), fun j a b => (f _ _ (by omega)).trans (rT.2.1 j a b), fun j a b => (h j a b).2.2.trans (rT.2.2.2.2.1 j a b), fun j a b => ⟨(h j a b).1.trans (rW.lv j a b), (h j a b).2.1.trans (rW.1.1 j a b).2⟩, rfl⟩, f⟩
theorem sp_goOnF {b : Int} {m : qm} {n : Nat} {u c h : Int → Int} {x : f_S} {y : Int} (g : f_rl n m u c h x y) (ok : f_OK n u c h x) : q_Ev yX12_goOn cX12_goOn 5 (some .int) 1 0 0 [(2, 188)] (q_sh0, q_rb b, m) (qK (q_rb b) (fun r m1 => f_rl n m1 u c h (f_b n u c h x) (y + r) ∧ 0 ≤ r ∧ r ≤ 81 ∧ q_fx f_X m m1)) := by
  refine (sp_goOn' n (g.mok ok)).post ?_
  rintro r m1 ⟨h1, h2, h3, h4, f⟩
  have ok' : f_OK n (m 194) (m 189) (m 209) (f_M m y) := (g.mok ok).2
  exact ⟨⟨(f _ _ (by unfold f_X; omega)).trans g.1, fun j a b => (f _ _ (by unfold f_X; omega)).trans (g.2.1 j a b), fun j a b => (f _ _ (by unfold f_X; omega)).trans (g.2.2.1 j a b), fun j a b => (f _ _ (by unfold f_X; omega)).trans (g.2.2.2.1 j a b), (h1 y).tr (f_b_en ok' g.2.1 g.2.2.1 g.2.2.2.1 g.2.2.2.2)⟩, h2, h3, f⟩
theorem sp_goOnNF {b : Int} {m : qm} {n : Nat} {u c h : Int → Int} {x : f_S} (g : f_rl n m u c h x 0) (ok : f_OK n u c h x) (k : Nat) (hk : k ≤ 10000) : q_Ev yX12_goOn_ cX12_goOn_ 4 (some .int) 2 0 0 [(2, 188), (0, (k : Int))] (q_sh0, q_rb b, m) (qK (q_rb b) (fun r m1 => f_rl n m1 u c h (f_it n u c h k x) r ∧ q_fx f_X m m1)) := by
  refine (sp_goOnN n k (g.mok ok) hk).post ?_
  rintro r m1 ⟨h1, h4, f⟩
  have ok' : f_OK n (m 194) (m 189) (m 209) (f_M m 0) := (g.mok ok).2
  exact ⟨⟨(f _ _ (by unfold f_X; omega)).trans g.1, fun j a b => (f _ _ (by unfold f_X; omega)).trans (g.2.1 j a b), fun j a b => (f _ _ (by unfold f_X; omega)).trans (g.2.2.1 j a b), fun j a b => (f _ _ (by unfold f_X; omega)).trans (g.2.2.2.1 j a b), h1.tr (f_it_en ok' g.2.1 g.2.2.1 g.2.2.2.1 g.2.2.2.2 k)⟩, f⟩
theorem f_cl.fr {n : Nat} {m m' : qm} {u c h : Int → Int} {x : f_S} {X : Int → Int → Prop} (g : f_cl n m u c h x) (hf : q_fx X m m') (hd : ∀ c i, (c = 1 ∧ i = 3) ∨ c = 2 ∨ (26 ≤ c ∧ c ≤ 30) → ¬ X c i) : f_cl n m' u c h x := by
  have e : ∀ c i, (c = 1 ∧ i = 3) ∨ c = 2 ∨ (26 ≤ c ∧ c ≤ 30) → m' c i = m c i := fun c i z => hf c i (hd c i z)
  obtain ⟨⟨w1, w2, w3⟩, g1, g2, g3, g4⟩ := g
  have e27 : m' 27 = m 27 := funext fun i => e _ _ (by omega)
  have e28 : m' 28 = m 28 := funext fun i => e _ _ (by omega)
  have e29 : m' 29 = m 29 := funext fun i => e _ _ (by omega)
  have e30 : m' 30 = m 30 := funext fun i => e _ _ (by omega)
  have e2 : m' 2 = m 2 := funext fun i => e _ _ (by omega)
  have ec : f_C m' = f_C m := by unfold f_C; rw [e27, e30, e 26 7 (by omega)]
  refine ⟨⟨(e _ _ (by omega)).trans w1, ?_, ?_⟩, ?_, ?_, ?_, ?_⟩
  · rw [e29, e2, e28, ec]; exact w2
  · rw [e 26 8 (by omega), e30, e28, e27]; exact w3
  · rw [e29]; exact g1
  · rw [e2]; exact g2
  · rw [e28]; exact g3
  · rw [ec]; exact g4
theorem f_rl.fr {n : Nat} {m m' : qm} {u c h : Int → Int} {x : f_S} {y : Int} {X : Int → Int → Prop} (g : f_rl n m u c h x y) (hf : q_fx X m m') (hd : ∀ c i, (c = 188 ∧ i = 0) ∨ c = 194 ∨ c = 189 ∨ (207 ≤ c ∧ c ≤ 209) → ¬ X c i) : f_rl n m' u c h x y := by
  have e : ∀ c i, (c = 188 ∧ i = 0) ∨ c = 194 ∨ c = 189 ∨ (207 ≤ c ∧ c ≤ 209) → m' c i = m c i := fun c i z => hf c i (hd c i z)
  obtain ⟨g0, g1, g2, g3, g4⟩ := g
  have ec : f_M m' y = f_M m y := by unfold f_M; rw [show m' 207 = m 207 from funext fun i => e _ _ (by omega), show m' 208 = m 208 from funext fun i => e _ _ (by omega)]
  exact ⟨(e _ _ (by omega)).trans g0, fun j a b => (e _ _ (by omega)).trans (g1 j a b), fun j a b => (e _ _ (by omega)).trans (g2 j a b), fun j a b => (e _ _ (by omega)).trans (g3 j a b), by rw [ec]; exact g4⟩
theorem f_cl.lv {n : Nat} {m : qm} {u c h : Int → Int} {x : f_S} (g : f_cl n m u c h x) : f_en n (m 27) x.1 := fun j a b => (g.2.2.2.2.1 j a b).1
theorem f_rl.lv {n : Nat} {m : qm} {u c h : Int → Int} {x : f_S} {y : Int} (g : f_rl n m u c h x y) : f_en n (m 207) x.1 := fun j a b => (g.2.2.2.2.1 j a b).1
theorem f_cl.lo {n : Nat} {m : qm} {u c h : Int → Int} {x : f_S} (g : f_cl n m u c h x) : m 26 7 = x.2.2 := g.2.2.2.2.2
theorem f_rl.lo {n : Nat} {m : qm} {u c h : Int → Int} {x : f_S} {y : Int} (g : f_rl n m u c h x y) : y = x.2.2 := g.2.2.2.2.2
theorem sp_isQuietF {b : Int} {m : qm} {n : Nat} {h l : Int → Int} (hn : m 1 3 = n) (h9 : n ≤ 9) (hh : f_en n (m 28) h) (hl : f_en n (m 27) l) : q_Ev yX1_isQuiet cX1_isQuiet 2 (some .boolean) 1 0 0 [(2, 26)] (q_sh0, q_rb b, m) (qK (q_rb b) (fun r m' => m' = m ∧ ((r = 1 ∧ ¬ a_mov n h l) ∨ (r = 0 ∧ a_mov n h l)))) := by
  refine q_enter (by decide +kernel) (by simp) (Nat.le_of_ble_eq_true rfl) ?_
  refine bkX1_isQuiet_0 ?_
  refine q_for (A := fun i m' => q_At yX1_isQuiet cX1_isQuiet 2 (some .boolean) 1 0 0 _ 2 [(2, 26), (0, i)] [] (q_sh0, q_rb b, m')) (fun i m' => 0 ≤ i ∧ m' = m ∧ ∀ j : Int, 0 ≤ j → j < i → j < n → ¬ (0 < h j ∧ 0 < l j)) n ?_ ?_ 0 m ⟨by omega, rfl, fun j a b => absurd a (by omega)⟩
  · rintro i m' hi ⟨i0, rfl, g⟩
    exact bkX1_isQuiet_2 (fun _ => ⟨rfl, Or.inl ⟨rfl, fun ⟨j, a, c, d, e⟩ => g j a (by omega) c ⟨d, e⟩⟩⟩) (fun z => absurd z (by omega)) (fun z => absurd z (by omega)) (fun z => absurd z (by omega)) (fun z => absurd z (by omega)) (fun z => absurd z (by omega)) (fun z => absurd z (by omega))
  · rintro i m' hi ⟨i0, rfl, g⟩ ih
    have e1 := hh i i0 hi
    have e2 := hl i i0 hi
    have nx : ¬ (0 < h i ∧ 0 < l i) → ∀ j : Int, 0 ≤ j → j < i + 1 → j < n → ¬ (0 < h j ∧ 0 < l j) := fun z j a c d => by
      by_cases hj : j = i
      · subst hj; exact z
      · exact g j a (by omega) d
    exact bkX1_isQuiet_2 (fun z => absurd z (by omega)) (fun _ => by omega) (fun _ _ => q_in_of (by omega) (by omega)) (fun _ z => ih _ ⟨by omega, rfl, nx (by omega)⟩) (fun _ _ _ => q_in_of (by omega) (by omega)) (fun _ _ z => ih _ ⟨by omega, rfl, nx (by omega)⟩) (fun _ z1 z2 => ⟨rfl, Or.inr ⟨rfl, i, i0, hi, by omega, by omega⟩⟩)
theorem sp_isMoving {b : Int} {m : qm} {n : Nat} {h l : Int → Int} (hn : m 188 0 = n) (h9 : n ≤ 9) (hh : f_en n (m 209) h) (hl : f_en n (m 207) l) : q_Ev yX12_isMoving cX12_isMoving 2 (some .boolean) 1 0 0 [(2, 188)] (q_sh0, q_rb b, m) (qK (q_rb b) (fun r m' => m' = m ∧ ((r = 0 ∧ ¬ a_mov n h l) ∨ (r = 1 ∧ a_mov n h l)))) := by
  refine q_enter (by decide +kernel) (by simp) (Nat.le_of_ble_eq_true rfl) ?_
  refine bkX12_isMoving_0 ?_
  refine q_for (A := fun i m' => q_At yX12_isMoving cX12_isMoving 2 (some .boolean) 1 0 0 _ 2 [(2, 188), (0, i)] [] (q_sh0, q_rb b, m')) (fun i m' => 0 ≤ i ∧ m' = m ∧ ∀ j : Int, 0 ≤ j → j < i → j < n → ¬ (0 < h j ∧ 0 < l j)) n ?_ ?_ 0 m ⟨by omega, rfl, fun j a b => absurd a (by omega)⟩
  · rintro i m' hi ⟨i0, rfl, g⟩
    exact bkX12_isMoving_2 (fun _ => ⟨rfl, Or.inl ⟨rfl, fun ⟨j, a, c, d, e⟩ => g j a (by omega) c ⟨d, e⟩⟩⟩) (fun z => absurd z (by omega)) (fun z => absurd z (by omega)) (fun z => absurd z (by omega)) (fun z => absurd z (by omega)) (fun z => absurd z (by omega)) (fun z => absurd z (by omega))
  · rintro i m' hi ⟨i0, rfl, g⟩ ih
    have e1 := hh i i0 hi
    have e2 := hl i i0 hi
    have nx : ¬ (0 < h i ∧ 0 < l i) → ∀ j : Int, 0 ≤ j → j < i + 1 → j < n → ¬ (0 < h j ∧ 0 < l j) := fun z j a c d => by
      by_cases hj : j = i
      · subst hj; exact z
      · exact g j a (by omega) d
    exact bkX12_isMoving_2 (fun z => absurd z (by omega)) (fun _ => by omega) (fun _ _ => q_in_of (by omega) (by omega)) (fun _ z => ih _ ⟨by omega, rfl, nx (by omega)⟩) (fun _ _ _ => q_in_of (by omega) (by omega)) (fun _ _ z => ih _ ⟨by omega, rfl, nx (by omega)⟩) (fun _ z1 z2 => ⟨rfl, Or.inr ⟨rfl, i, i0, hi, by omega, by omega⟩⟩)
