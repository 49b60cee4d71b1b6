/-! ===== holes that are stopped ===== -/
theorem f_it_w {n : Nat} {u c h : Int → Int} {x : f_S} : ∀ t : Nat, ∀ j, 0 ≤ x.2.1 j → (f_it n u c h t x).2.1 j = max 0 (x.2.1 j - t)
  | 0, j, h0 => by show x.2.1 j = _; omega
  | t + 1, j, h0 => by
    show max 0 ((f_it n u c h t x).2.1 j - 1) = _
    rw [f_it_w t j h0]; omega
/-- flows that let the same go are the same -/
theorem f_same {n q : Nat} {u c h h' : Int → Int} {x x' : f_S} (hr : ∀ j : Int, 0 ≤ j → j < n → u j = -1 ∨ (0 ≤ u j ∧ u j < n)) (hl : f_en n x.1 x'.1) (hlo : x.2.2 = x'.2.2) (ho : ∀ t : Nat, t < q → ∀ j : Int, 0 ≤ j → j < n → f_o (f_it n u c h t x).2.1 h (f_it n u c h t x).1 j = f_o (f_it n u c h' t x').2.1 h' (f_it n u c h t x).1 j) : ∀ t : Nat, t ≤ q → f_en n (f_it n u c h t x).1 (f_it n u c h' t x').1 ∧ (f_it n u c h t x).2.2 = (f_it n u c h' t x').2.2
  | 0, _ => ⟨hl, hlo⟩
  | t + 1, ht => by
    have ih := f_same hr hl hlo ho t (by omega)
    have oe : f_en n (f_o (f_it n u c h t x).2.1 h (f_it n u c h t x).1) (f_o (f_it n u c h' t x').2.1 h' (f_it n u c h' t x').1) := fun j a b => by
      rw [ho t (by omega) j a b]
      unfold f_o
      rw [ih.1 j a b]
    have d := f_d_en (n := n) (u := u) (u' := u) (c := c) (c' := c) (fun _ _ _ => rfl) (fun _ _ _ => rfl) oe ih.1 hr n (Nat.le_refl n)
    refine ⟨d.1, ?_⟩
    show (f_it n u c h t x).2.2 + _ = (f_it n u c h' t x').2.2 + _
    rw [ih.2, d.2]
def a_hs (h : Int → Int) (s : Nat) : Int → Int := fun j => if s.testBit j.toNat then 0 else h j
def a_ws (w : Int → Int) (s q : Nat) : Int → Int := fun j => if s.testBit j.toNat then max (w j) q else w j
theorem a_hs_ok {B : Int} {n : Nat} {T : a_T} {A : a_W} (t : a_TV n T) (v : a_V B n T.1 A) (s : Nat) : f_OK n T.2.2.2.2 T.1 (a_hs T.2.2.2.1 s) (a_x0 A) := by
  have ok := a_OK0 t v
  refine ⟨ok.1, fun i a c => ?_⟩
  have z := ok.2 i a c
  have e : 0 ≤ a_hs T.2.2.2.1 s i ∧ a_hs T.2.2.2.1 s i ≤ 9 := by
    unfold a_hs
    split
    · decide
    · exact ⟨z.2.2.2.1, z.2.2.2.2.1⟩
  exact ⟨z.1, z.2.1, z.2.2.1, e.1, e.2, z.2.2.2.2.2.1, z.2.2.2.2.2.2.1, z.2.2.2.2.2.2.2.1, z.2.2.2.2.2.2.2.2⟩
def a_xs (A : a_W) (s q : Nat) : f_S := (A.1.1, a_ws A.1.2.1 s q, 0)
theorem a_xs_ok {B : Int} {n : Nat} {T : a_T} {A : a_W} (t : a_TV n T) (v : a_V B n T.1 A) (s : Nat) {q : Nat} (hq : q ≤ 200) : f_OKL n T.2.2.2.2 T.1 T.2.2.2.1 (a_xs A s q) := by
  have ok := a_OK0 t v
  refine ⟨ok.1, fun i a c => ?_⟩
  have z := ok.2 i a c
  have z6 : 0 ≤ A.1.2.1 i := z.2.2.2.2.2.1
  have z7 : A.1.2.1 i ≤ 99 := z.2.2.2.2.2.2.1
  have e : 0 ≤ a_ws A.1.2.1 s q i ∧ a_ws A.1.2.1 s q i ≤ 999 := by
    unfold a_ws
    split <;> omega
  exact ⟨z.1, z.2.1, z.2.2.1, z.2.2.2.1, z.2.2.2.2.1, e.1, e.2, z.2.2.2.2.2.2.2.1, z.2.2.2.2.2.2.2.2⟩
def a_Y (n : Nat) (T : a_T) (A : a_W) (q s : Nat) : f_S := f_it n T.2.2.2.2 T.1 (a_hs T.2.2.2.1 s) q (a_x0 A)
theorem f_ur {n : Nat} {T : a_T} (t : a_TV n T) : ∀ j : Int, 0 ≤ j → j < n → T.2.2.2.2 j = -1 ∨ (0 ≤ T.2.2.2.2 j ∧ T.2.2.2.2 j < n) := fun j a b => by
  have z := (t.2 j a b).2.2.2.2.2.2.2.2
  rcases z with z | z
  · exact Or.inl z
  · exact Or.inr ⟨z.1, z.2.1⟩
/-- stopped by wax or by no hole at all -/
theorem a_Y_wax {B : Int} {n : Nat} {T : a_T} {A : a_W} (t : a_TV n T) (v : a_V B n T.1 A) (s q : Nat) : f_en n (a_Y n T A q s).1 (f_it n T.2.2.2.2 T.1 T.2.2.2.1 q (a_xs A s q)).1 ∧ (a_Y n T A q s).2.2 = (f_it n T.2.2.2.2 T.1 T.2.2.2.1 q (a_xs A s q)).2.2 := by
  refine f_same (q := q) (c := T.1) (h := a_hs T.2.2.2.1 s) (h' := T.2.2.2.1) (x := a_x0 A) (x' := a_xs A s q) (f_ur t) (fun _ _ _ => rfl) rfl (fun p hp j a b => ?_) q (Nat.le_refl q)
  have ok := (a_hs_ok t v s).it p
  have z := ok.2 j a b
  have z0 := (a_OK0 t v).2 j a b
  have z6 : 0 ≤ A.1.2.1 j := z0.2.2.2.2.2.1
  have lj : 0 ≤ (f_it n T.2.2.2.2 T.1 (a_hs T.2.2.2.1 s) p (a_x0 A)).1 j := z.2.2.2.2.2.2.2.1
  have e2 : (a_xs A s q).2.1 j = a_ws A.1.2.1 s q j := rfl
  have e3 : 0 ≤ a_ws A.1.2.1 s q j := by unfold a_ws; split <;> omega
  unfold f_o
  rw [f_it_w (x := a_x0 A) p j z6, f_it_w (x := a_xs A s q) p j (by rw [e2]; exact e3), e2]
  generalize (f_it n T.2.2.2.2 T.1 (a_hs T.2.2.2.1 s) p (a_x0 A)).1 j = L at lj ⊢
  show (if 0 < max 0 (A.1.2.1 j - p) then (0 : Int) else min (a_hs T.2.2.2.1 s j) _) = _
  unfold a_hs a_ws
  by_cases h : s.testBit j.toNat
  · rw [if_pos h, if_pos h, if_pos (show 0 < max 0 (max (A.1.2.1 j) q - p) by omega)]
    split
    · rfl
    · omega
  · rw [if_neg h, if_neg h]
/-- what lets nothing go anyhow need not be stopped -/
theorem a_Y_and {B : Int} {n : Nat} {T : a_T} {A : a_W} (t : a_TV n T) (v : a_V B n T.1 A) (q s s' : Nat) (hs : ∀ j : Int, 0 ≤ j → j < n → s.testBit j.toNat = s'.testBit j.toNat ∨ T.2.2.2.1 j = 0 ∨ (q : Int) ≤ A.1.2.1 j) : f_en n (a_Y n T A q s).1 (a_Y n T A q s').1 ∧ (a_Y n T A q s).2.2 = (a_Y n T A q s').2.2 := by
  refine f_same (q := q) (c := T.1) (h := a_hs T.2.2.2.1 s) (h' := a_hs T.2.2.2.1 s') (x := a_x0 A) (x' := a_x0 A) (f_ur t) (fun _ _ _ => rfl) rfl (fun p hp j a b => ?_) q (Nat.le_refl q)
  have z0 := (a_OK0 t v).2 j a b
  have z6 : 0 ≤ A.1.2.1 j := z0.2.2.2.2.2.1
  unfold f_o
  rw [f_it_w (x := a_x0 A) p j z6, f_it_w (x := a_x0 A) p j z6]
  show (if 0 < max 0 (A.1.2.1 j - p) then (0 : Int) else min (a_hs T.2.2.2.1 s j) _) = (if 0 < max 0 (A.1.2.1 j - p) then (0 : Int) else min (a_hs T.2.2.2.1 s' j) _)
  rcases hs j a b with h | h | h
  · unfold a_hs; rw [h]
  · unfold a_hs; rw [h]; simp
  · rw [if_pos (by omega), if_pos (by omega)]
/-- stopping others never helps a jar -/
theorem f_dm {n : Nat} {u c o o' l l' : Int → Int} (hr : ∀ j : Int, 0 ≤ j → j < n → u j = -1 ∨ (0 ≤ u j ∧ u j < n)) (g : Int → Prop) (h0 : ∀ j : Int, 0 ≤ j → j < n → g j → l j - o j ≤ l' j - o' j) (ho : ∀ j : Int, 0 ≤ j → j < n → o j ≤ o' j) : ∀ k : Nat, k ≤ n → ∀ j : Int, 0 ≤ j → j < n → g j → (f_d u c o l k).1 j ≤ (f_d u c o' l' k).1 j
  | 0, _ => h0
  | k + 1, hk => by
    intro j a b gj
    have ih := f_dm (c := c) hr g h0 ho k (by omega)
    have hk1 := ho k (by omega) (by omega)
    simp only [f_d]
    by_cases hu : u k = -1
    · rw [if_pos hu, if_pos hu]; exact ih j a b gj
    · rw [if_neg hu, if_neg hu]
      show (if j = u k then (f_d u c o l k).1 j + min (o k) (c (u k) - (f_d u c o l k).1 (u k)) else (f_d u c o l k).1 j) ≤ (if j = u k then (f_d u c o' l' k).1 j + min (o' k) (c (u k) - (f_d u c o' l' k).1 (u k)) else (f_d u c o' l' k).1 j)
      have i2 := ih j a b gj
      by_cases hj : j = u k
      · rw [if_pos hj, if_pos hj, ← hj]; omega
      · rw [if_neg hj, if_neg hj]; exact i2
theorem a_Y_mono {B : Int} {n : Nat} {T : a_T} {A : a_W} (t : a_TV n T) (v : a_V B n T.1 A) (i : Int) (s s' : Nat) (h1 : ∀ j : Int, 0 ≤ j → j < n → s'.testBit j.toNat = true → s.testBit j.toNat = true) (h2 : s.testBit i.toNat = s'.testBit i.toNat) : ∀ q : Nat, ∀ j : Int, 0 ≤ j → j < n → (j = i ∨ s.testBit j.toNat = false) → (a_Y n T A q s).1 j ≤ (a_Y n T A q s').1 j
  | 0 => fun j _ _ _ => Int.le_refl _
  | q + 1 => by
    have ih := a_Y_mono t v i s s' h1 h2 q
    intro j a b gj
    have ok := (a_hs_ok t v s).it q
    have ok' := (a_hs_ok t v s').it q
    show (f_d T.2.2.2.2 T.1 (f_o (a_Y n T A q s).2.1 (a_hs T.2.2.2.1 s) (a_Y n T A q s).1) (a_Y n T A q s).1 n).1 j ≤ (f_d T.2.2.2.2 T.1 (f_o (a_Y n T A q s').2.1 (a_hs T.2.2.2.1 s') (a_Y n T A q s').1) (a_Y n T A q s').1 n).1 j
    have wx : ∀ j : Int, 0 ≤ j → j < n → (a_Y n T A q s).2.1 j = (a_Y n T A q s').2.1 j := fun j a b => by
      have z6 : 0 ≤ A.1.2.1 j := ((a_OK0 t v).2 j a b).2.2.2.2.2.1
      unfold a_Y
      rw [f_it_w (x := a_x0 A) q j z6, f_it_w (x := a_x0 A) q j z6]
    have lv : ∀ j : Int, 0 ≤ j → j < n → 0 ≤ (a_Y n T A q s).1 j ∧ 0 ≤ (a_Y n T A q s').1 j := fun j a b => ⟨(ok.2 j a b).2.2.2.2.2.2.2.1, (ok'.2 j a b).2.2.2.2.2.2.2.1⟩
    have hh : ∀ j : Int, 0 ≤ j → j < n → (j = i ∨ s.testBit j.toNat = false) → a_hs T.2.2.2.1 s j = a_hs T.2.2.2.1 s' j := fun j a b g => by
      unfold a_hs
      rcases g with g | g
      · rw [g, h2]
      · have : s'.testBit j.toNat = false := by
          cases hc : s'.testBit j.toNat
          · rfl
          · rw [h1 j a b hc] at g; cases g
        rw [g, this]
    refine f_dm (f_ur t) (fun j => j = i ∨ s.testBit j.toNat = false) (fun j a b g => ?_) (fun j a b => ?_) n (Nat.le_refl n) j a b gj
    · have i1 := ih j a b g
      have l := lv j a b
      have hp := (ok.2 j a b).2.2.2.1
      have hp2 := (ok'.2 j a b).2.2.2.1
      unfold f_o
      rw [wx j a b, hh j a b g]
      split <;> omega
    · have l := lv j a b
      have hp := (ok.2 j a b).2.2.2.1
      have hp2 := (ok'.2 j a b).2.2.2.1
      unfold f_o
      rw [wx j a b]
      by_cases g : j = i ∨ s.testBit j.toNat = false
      · have i1 := ih j a b g
        rw [hh j a b g]
        split <;> omega
      · have hs : s.testBit j.toNat = true := by
          cases hc : s.testBit j.toNat
          · exact absurd (Or.inr hc) g
          · rfl
        have e0 : a_hs T.2.2.2.1 s j = 0 := by unfold a_hs; rw [if_pos hs]
        rw [e0]
        split <;> omega
/-! the class's way, the reference's -/
theorem sp_goStoppedC {b B : Int} {m : qm} {n q s : Nat} {T : a_T} {A : a_W} (cT : c_T m n T) (cW : c_W m 5 n A) (t : a_TV n T) (v : a_V B n T.1 A) (hs : s < 512) (hq : q ≤ 200) : q_Ev yX11_goStopped cX11_goStopped 4 none 4 0 0 [(2, 0), (0, (s : Int)), (0, (q : Int))] (q_sh0, q_rb b, m) (qK (q_rb b) (fun _ m' => (∀ j : Int, 0 ≤ j → j < n → m' 27 j = (a_Y n T A q s).1 j) ∧ m' 26 7 = (a_Y n T A q s).2.2 ∧ q_fx x_f m m')) := by
  have h9 := t.1
  refine q_enter (by decide +kernel) (by simp) (Nat.le_of_ble_eq_true rfl) ?_
  refine bkX11_goStopped_0 (sp_startW cT cW h9) ?_
  rintro r1 m1 ⟨g, -, f1⟩ _
  refine q_for (A := fun i m' => q_At yX11_goStopped cX11_goStopped 4 none 4 0 0 _ 13 [(2, 0), (0, (s : Int)), (0, (q : Int)), (0, i)] [] (q_sh0, q_rb b, m')) (fun i m' => ∃ y : Nat, i = y ∧ y ≤ n ∧ (∀ j : Int, 0 ≤ j → j < n → m' 28 j = if j < y then a_hs T.2.2.2.1 s j else T.2.2.2.1 j) ∧ q_fx (fun c _ => c = 28) m1 m') n ?_ ?_ 0 m1 ⟨0, rfl, by omega, fun j a b => by rw [if_neg (by omega)]; exact g.2.2.2.2.1 j a b, q_fx.rf⟩
  · rintro i m' hi ⟨y, rfl, hy, h, fx⟩
    have : y = n := by omega
    subst this
    have e : m' 1 3 = y := (fx _ _ (by omega)).trans g.1
    have ok := a_hs_ok t v s
    have c0 : f_c0 y m' T.2.2.2.2 T.1 (a_hs T.2.2.2.1 s) (a_x0 A) := by
      obtain ⟨g1, g2, g3, g4, g5, g6⟩ := g
      exact ⟨e, (fx _ _ (by omega)).trans g2, fun j a b => (fx _ _ (by omega)).trans (g3 j a b), fun j a b => (fx _ _ (by omega)).trans (g4 j a b), fun j a b => by rw [h j a b, if_pos b], fun j a b => ⟨(fx _ _ (by omega)).trans (g6.1 j a b).1, (fx _ _ (by omega)).trans (g6.1 j a b).2⟩, (fx _ _ (by omega)).trans g6.2⟩
    refine bkX11_goStopped_13 (P2 := fun _ m2 => (∀ j : Int, 0 ≤ j → j < y → m2 27 j = (a_Y y T A q s).1 j) ∧ m2 26 7 = (a_Y y T A q s).2.2 ∧ q_fx x_f m m2) (fun _ => ?_) (fun _ _ m2 h2 _ => h2) (fun z => absurd z (by omega)) (fun z => absurd z (by omega)) (fun z => absurd z (by omega)) (fun z => absurd z (by omega))
    refine (sp_allF (c0.cl ok) q (by have e : (a_x0 A).2.2 = 0 := rfl; omega)).post (fun r m3 z => ⟨z.1.lv, z.1.lo, ?_⟩)
    exact (f1.tr (fx.mono (fun c i z => by unfold x_f; omega))).tr (z.2.mono (fun c i z => by unfold x_f; omega))
  · rintro i m' hi ⟨y, rfl, hy, h, fx⟩ ih
    have e : m' 1 3 = n := (fx _ _ (by omega)).trans g.1
    have qb := q_bit hs (show y < 9 by omega)
    refine bkX11_goStopped_13 (P2 := fun _ _ => True) (fun z => absurd z (by omega)) (fun z => absurd z (by omega)) (fun _ _ => q_in_of (by omega) (by omega)) (fun _ z => ih m' ⟨y + 1, by omega, by omega, fun j a b => ?_, fx⟩) (fun _ _ => ⟨by omega, q_in_of (by omega) (by omega)⟩) (fun _ z => ih _ ⟨y + 1, by omega, by omega, fun j a b => ?_, fx.up rfl⟩)
    · rw [h j a b]
      by_cases hj : j = y
      · rw [if_neg (by omega), if_pos (by omega)]
        unfold a_hs
        rw [hj, Int.toNat_natCast, if_neg (fun hb => by rw [qb, if_pos hb] at z; omega)]
      · by_cases hy2 : j < y
        · rw [if_pos hy2, if_pos (by omega)]
        · rw [if_neg hy2, if_neg (by omega)]
    · by_cases hj : j = y
      · subst hj
        rw [q_up_s, if_pos (by omega)]
        unfold a_hs
        rw [Int.toNat_natCast]
        cases hb : s.testBit y
        · rw [qb, hb] at z; exact absurd rfl z
        · rfl
      · rw [q_up_i hj, h j a b]
        by_cases hy2 : j < y
        · rw [if_pos hy2, if_pos (by omega)]
        · rw [if_neg hy2, if_neg (by omega)]
theorem sp_goStoppedM {b B : Int} {m : qm} {n q s : Nat} {T : a_T} {A : a_W} (cT : r_T m n T) (cW : r_W m n A) (t : a_TV n T) (v : a_V B n T.1 A) (hs : s < 512) (hq : q ≤ 200) : q_Ev yX12_goStopped cX12_goStopped 4 (some .int) 3 0 0 [(2, 188), (0, (s : Int)), (0, (q : Int))] (q_sh0, q_rb b, m) (qK (q_rb b) (fun r m' => (∀ j : Int, 0 ≤ j → j < n → m' 207 j = (a_Y n T A q s).1 j) ∧ r = (a_Y n T A q s).2.2 ∧ q_fx x_g m m')) := by
  have h9 := t.1
  have aw := a_Y_wax t v s q
  refine q_enter (by decide +kernel) (by simp) (Nat.le_of_ble_eq_true rfl) ?_
  refine bkX12_goStopped_0 (sp_beginW cT cW h9) ?_
  rintro r1 m1 ⟨g, f1⟩ _
  refine q_for (A := fun i m' => q_At yX12_goStopped cX12_goStopped 4 (some .int) 3 0 0 _ 6 [(2, 188), (0, (s : Int)), (0, (q : Int)), (0, i)] [] (q_sh0, q_rb b, m')) (fun i m' => ∃ y : Nat, i = y ∧ y ≤ n ∧ (∀ j : Int, 0 ≤ j → j < n → m' 208 j = if j < y then a_ws A.1.2.1 s q j else A.1.2.1 j) ∧ q_fx (fun c _ => c = 208) m1 m') n ?_ ?_ 0 m1 ⟨0, rfl, by omega, fun j a b => by rw [if_neg (by omega)]; exact (g.2.2.2.2.1 j a b).2, q_fx.rf⟩
  · rintro i m' hi ⟨y, rfl, hy, h, fx⟩
    have : y = n := by omega
    subst this
    have e : m' 188 0 = y := (fx _ _ (by omega)).trans g.1
    have ok := a_xs_ok t v s hq
    obtain ⟨g1, g3, g4, g5, g6⟩ := g
    have u' : f_en y (m' 194) T.2.2.2.2 := fun j a b => (fx _ _ (by omega)).trans (g3 j a b)
    have c' : f_en y (m' 189) T.1 := fun j a b => (fx _ _ (by omega)).trans (g4 j a b)
    have h' : f_en y (m' 209) T.2.2.2.1 := fun j a b => (fx _ _ (by omega)).trans (g5 j a b)
    have e0 : f_eq y (f_M m' 0) (a_xs A s q) := ⟨fun j a b => ⟨(fx _ _ (by omega)).trans (g6.1 j a b).1, by show m' 208 j = _; rw [h j a b, if_pos b]; rfl⟩, rfl⟩
    have ok' : f_OKL y (m' 194) (m' 189) (m' 209) (f_M m' 0) := ok.en u'.sy c'.sy h'.sy e0.sy
    refine bkX12_goStopped_6 (P2 := fun r m2 => (∀ j : Int, 0 ≤ j → j < y → m2 207 j = (a_Y y T A q s).1 j) ∧ r = (a_Y y T A q s).2.2 ∧ q_fx x_g m m2) (P3 := fun _ _ => True) (fun _ => ?_) (fun _ _ m2 h2 _ => h2) (fun z => absurd z (by omega)) (fun z => absurd z (by omega)) (fun z => absurd z (by omega)) (fun z => absurd z (by omega)) (fun z => absurd z (by omega))
    refine (sp_goOnNL y q ⟨e, ok'⟩ (by omega)).post (fun r m3 z => ?_)
    have e2 := z.1.tr (f_it_enL ok' u' c' h' e0 q)
    refine ⟨fun j a b => ?_, ?_, ?_⟩
    · rw [aw.1 j a b]; exact (e2.1 j a b).1
    · rw [aw.2]; exact e2.2
    · exact ((f1.mono (fun c i z => by unfold x_g; omega)).tr (fx.mono (fun c i z => by unfold x_g; omega))).tr (z.2.2.mono (fun c i z => by unfold f_X at z; unfold x_g; omega))
  · rintro i m' hi ⟨y, rfl, hy, h, fx⟩ ih
    have e : m' 188 0 = n := (fx _ _ (by omega)).trans g.1
    have qb := q_bit hs (show y < 9 by omega)
    refine bkX12_goStopped_6 (P2 := fun _ _ => True) (P3 := fun r3 m3 => m3 = m' ∧ ((r3 = 1 ∧ s.testBit y = true) ∨ (r3 = 0 ∧ s.testBit y = false))) (fun z => absurd z (by omega)) (fun z => absurd z (by omega)) (fun _ => ?_) (fun _ _ _ _ _ _ => q_in_of (by omega) (by omega)) ?_ (fun _ _ _ _ _ _ => ⟨by omega, q_in_of (by omega) (by omega)⟩) ?_
    · refine q_enter (by decide +kernel) (by simp) (Nat.le_of_ble_eq_true rfl) ?_
      refine bkX12_has_0 (fun z => ⟨rfl, Or.inr ⟨rfl, ?_⟩⟩) (fun z => ⟨rfl, Or.inl ⟨rfl, ?_⟩⟩)
      · cases hb : s.testBit y
        · rfl
        · rw [qb, hb] at z; exact absurd rfl z
      · cases hb : s.testBit y
        · rw [qb, hb] at z; exact absurd z (by decide)
        · rfl
    · rintro _ r3 m3 ⟨rfl, h3⟩ _ z
      have hb : s.testBit y = false := by
        rcases h3 with h3 | h3
        · omega
        · exact h3.2
      refine ih m3 ⟨y + 1, by omega, by omega, fun j a b => ?_, fx⟩
      rw [h j a b]
      by_cases hj : j = y
      · rw [if_neg (by omega), if_pos (by omega)]
        unfold a_ws
        rw [hj, Int.toNat_natCast, hb]; rfl
      · by_cases hy2 : j < y
        · rw [if_pos hy2, if_pos (by omega)]
        · rw [if_neg hy2, if_neg (by omega)]
    · rintro _ r3 m3 ⟨rfl, h3⟩ _ z
      have hb : s.testBit y = true := by
        rcases h3 with h3 | h3
        · exact h3.2
        · exact absurd h3.1 z
      refine ih _ ⟨y + 1, by omega, by omega, fun j a b => ?_, fx.up rfl⟩
      by_cases hj : j = y
      · subst hj
        rw [q_up_s, if_pos (by omega), h y a b, if_neg (by omega)]
        unfold a_ws
        rw [Int.toNat_natCast, hb]; rfl
      · rw [q_up_i hj, h j a b]
        by_cases hy2 : j < y
        · rw [if_pos hy2, if_pos (by omega)]
        · rw [if_neg hy2, if_neg (by omega)]
def a_us (T : a_T) (A : a_W) (q : Nat) (j : Int) : Bool := decide (0 < T.2.2.2.1 j ∧ A.1.2.1 j < q)
theorem sp_worth {b B : Int} {m : qm} {n q : Nat} {T : a_T} {A : a_W} (cT : c_T m n T) (cW : c_W m 5 n A) (t : a_TV n T) (v : a_V B n T.1 A) : q_Ev yX11_worthStopping cX11_worthStopping 4 (some .int) 1 0 0 [(2, 0), (0, (q : Int))] (q_sh0, q_rb b, m) (qK (q_rb b) (fun r m' => m' = m ∧ r = ((a_bn (a_us T A q) n : Nat) : Int))) := by
  have h9 := t.1
  have e0 := cT.1
  refine q_enter (by decide +kernel) (by simp) (Nat.le_of_ble_eq_true rfl) ?_
  refine bkX11_worthStopping_0 ?_
  rw [← a_bn_bt n h9]
  refine q_for1 (A := fun i (x : Int) m' => q_At yX11_worthStopping cX11_worthStopping 4 (some .int) 1 0 0 _ 4 [(2, 0), (0, (q : Int)), (0, x), (0, i)] [] (q_sh0, q_rb b, m')) (fun i x m' => ∃ y : Nat, i = y ∧ y ≤ n ∧ m' = m ∧ x = a_bt (a_us T A q) y) n ?_ ?_ 0 0 m ⟨0, rfl, by omega, rfl, rfl⟩
  · rintro i x m' hi ⟨y, rfl, hy, rfl, rfl⟩
    have : y = n := by omega
    subst this
    exact bkX11_worthStopping_4 (fun _ => ⟨rfl, rfl⟩) (fun z => absurd z (by omega)) (fun z => absurd z (by omega)) (fun z => absurd z (by omega)) (fun z => absurd z (by omega)) (fun z => absurd z (by omega)) (fun z => absurd z (by omega)) (fun z => absurd z (by omega))
  · rintro i x m' hi ⟨y, rfl, hy, rfl, rfl⟩ ih
    have eh : m' 10 y = T.2.2.2.1 y := cT.2.2.2.2.1 y (by omega) (by omega)
    have ew : m' 9 y = A.1.2.1 y := (cW.1 y (by omega) (by omega)).2
    have hin : q_in32 ((y : Int) + 1) := q_in_of (by omega) (by omega)
    have no : ¬ (0 < T.2.2.2.1 y ∧ A.1.2.1 y < q) → a_bt (a_us T A q) (y + 1) = a_bt (a_us T A q) y := fun h => by
      simp only [a_bt]
      rw [if_neg]
      unfold a_us
      simpa using h
    refine bkX11_worthStopping_4 (fun z => absurd z (by omega)) (fun _ => by omega) (fun _ _ => hin) (fun _ z => ih _ _ ⟨y + 1, by omega, by omega, rfl, (no (by omega)).symm⟩) (fun _ _ _ => hin) (fun _ z1 z2 => ih _ _ ⟨y + 1, by omega, by omega, rfl, (no (by omega)).symm⟩) (fun _ _ _ => hin) (fun _ z1 z2 => ih _ _ ⟨y + 1, by omega, by omega, rfl, ?_⟩)
    simp only [a_bt]
    rw [if_pos]
    unfold a_us
    exact decide_eq_true (by omega)
