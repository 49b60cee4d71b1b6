/-! pays, soonest, latest -/
abbrev g_own (x y : Int) : Prop := (0 ≤ x ∧ x < 6) ∧ (0 ≤ y ∧ y < 6) ∧ x ≠ y
def a_pays (n : Nat) (m : qm) (x y : Int) : Int := if g_own x y then (if g_pay n (m 192) (m 189) (m 190) (m 197 (6 * x + y)) x y then 1 else 0) else -1
def o_pays (n : Nat) (m : qm) (x y : Int) : Option (List Int) := if g_own x y then some [g_s (g_dr (m 192) (m 190) x) n, g_s (g_rm (m 192) (m 189) (m 190) y) n] else none
theorem q_ups {m : qm} {c i v c' j : Int} : q_up m c i v c' j = if c' = c ∧ j = i then v else m c' j := rfl
/-- the class's rows against the reference's -/
theorem i_rows {k n : Nat} {m : qm} (h : i_B k n m) : f_en n (m 3) (m 192) ∧ f_en n (m 2) (m 189) ∧ f_en n (m 8) (m 190) ∧ (∀ j : Int, 0 ≤ j → j < n → 0 ≤ m 190 j ∧ m 190 j ≤ m 189 j ∧ m 189 j ≤ 60) ∧ (∀ d, 0 ≤ d → d < 36 → m 12 d = m 197 d ∧ 0 ≤ m 197 d ∧ m 197 d ≤ 999) := by
  obtain ⟨t, p, a⟩ := h
  refine ⟨fun j a0 a1 => (t.2.2.2 j a0 a1).2.1, fun j a0 a1 => (t.2.2.2 j a0 a1).1, fun j a0 a1 => (a.1.1 j a0 a1).1, fun j a0 a1 => ?_, fun d d0 d1 => ⟨a.1.2.1 d d0 d1, (a.2.2.1 d d0 d1).1, (a.2.2.1 d d0 d1).2⟩⟩
  have z := t.2.2.2 j a0 a1
  have w := a.2.1 j a0 a1
  exact ⟨w.1, w.2.1, z.2.2.2.2.1⟩
/-- the row that the class has told so far; the reference's -/
def i_rw (m : qm) (l : List Int) (m' : qm) : Prop := q_fx x_F m m' ∧ m' 0 16 = (l.length : Int) ∧ ∀ i : Nat, i < l.length → m' 169 i = l.getD i 0
def i_mw (m : qm) (l : List Int) (m' : qm) : Prop := q_fx x_G m m' ∧ m' 188 16 = (l.length : Int) ∧ ∀ i : Nat, i < l.length → m' 199 i = l.getD i 0
theorem i_rw.clear {m m' : qm} (h : q_fx x_F m m') : i_rw m [] (q_up m' 0 16 0) := ⟨h.up (by decide), q_up_s, fun i hi => by simp at hi⟩
theorem i_mw.clear {m m' : qm} (h : q_fx x_G m m') : i_mw m [] (q_up m' 188 16 0) := ⟨h.up (by decide), q_up_s, fun i hi => by simp at hi⟩
theorem i_rw.tell {m m' : qm} {l : List Int} {v : Int} (h : i_rw m l m') : i_rw m (l ++ [v]) (q_up (q_up m' 169 (m' 0 16) v) 0 16 (m' 0 16 + 1)) := by
  obtain ⟨h1, h2, h3⟩ := h
  refine ⟨(h1.up (by simp [x_F])).up (by decide), by rw [q_up_s, h2]; simp, fun i hi => ?_⟩
  rw [q_up_c (by decide)]
  simp only [List.length_append, List.length_singleton] at hi
  by_cases hl : i = l.length
  · subst hl
    rw [← h2, q_up_s, List.getD_eq_getElem?_getD, List.getElem?_append_right (Nat.le_refl _)]
    simp
  · rw [q_up_i (by rw [h2]; omega), h3 i (by omega), List.getD_eq_getElem?_getD, List.getD_eq_getElem?_getD, List.getElem?_append_left (by omega)]
theorem i_mw.tell {m m' : qm} {l : List Int} {v : Int} (h : i_mw m l m') : i_mw m (l ++ [v]) (q_up (q_up m' 199 (m' 188 16) v) 188 16 (m' 188 16 + 1)) := by
  obtain ⟨h1, h2, h3⟩ := h
  refine ⟨(h1.up (by simp [x_G])).up (by decide), by rw [q_up_s, h2]; simp, fun i hi => ?_⟩
  rw [q_up_c (by decide)]
  simp only [List.length_append, List.length_singleton] at hi
  by_cases hl : i = l.length
  · subst hl
    rw [← h2, q_up_s, List.getD_eq_getElem?_getD, List.getElem?_append_right (Nat.le_refl _)]
    simp
  · rw [q_up_i (by rw [h2]; omega), h3 i (by omega), List.getD_eq_getElem?_getD, List.getD_eq_getElem?_getD, List.getElem?_append_left (by omega)]
theorem i_rw.rc {m m' : qm} {l : List Int} (h : i_rw m l m') : i_rc m m' (some l) := ⟨h.2.1, h.2.2⟩
theorem i_mw.rr {m m' : qm} {l : List Int} (h : i_mw m l m') : i_rr m m' (some l) := ⟨h.2.1, h.2.2⟩
theorem i_rw.len {m m' : qm} {l : List Int} (h : i_rw m l m') (hl : l.length < 10) : 0 ≤ m' 0 16 ∧ m' 0 16 < 10 := by rw [h.2.1]; omega
theorem i_mw.len {m m' : qm} {l : List Int} (h : i_mw m l m') (hl : l.length < 16) : 0 ≤ m' 188 16 ∧ m' 188 16 < 16 := by rw [h.2.1]; omega
theorem x_F.row {m m' : qm} (h : q_fx x_F m m') {c : Int} (hc : ¬ (26 ≤ c ∧ c ≤ 32) ∧ c ≠ 0 ∧ c ≠ 169) : m' c = m c := funext fun i => h c i (by simp only [x_F]; omega)
theorem x_G.row {m m' : qm} (h : q_fx x_G m m') {c : Int} (hc : ¬ (207 ≤ c ∧ c ≤ 210) ∧ c ≠ 188 ∧ c ≠ 199 ∧ c ≠ 202) : m' c = m c := funext fun i => h c i (by simp only [x_G]; omega)
theorem cl_pays {k n : Nat} {b : Int} {m : qm} (h : i_B k n m) (x y : Int) : q_Ev yX11_pays cX11_pays 3 (some .int) 3 0 0 [(2, 0), (0, x), (0, y)] (q_sh0, q_rb b, m) (qK (q_rb b) (fun r m1 => r = a_pays n m x y ∧ q_fx x_F m m1 ∧ i_rc m m1 (o_pays n m x y))) := by
  obtain ⟨e1, e2, e3, e4, e5⟩ := i_rows h
  have t1 := h.1.1
  have t2 := h.1.2.1
  refine q_enter (by decide +kernel) (by simp) (Nat.le_of_ble_eq_true rfl) ?_
  have bnd : ∀ {m' : qm}, q_fx x_F m m' → m' 1 3 = n ∧ m' 3 = m 3 ∧ m' 2 = m 2 ∧ m' 8 = m 8 ∧ m' 12 = m 12 ∧ ∀ j : Int, 0 ≤ j → j < n → 0 ≤ m' 8 j ∧ m' 8 j ≤ m' 2 j ∧ m' 2 j ≤ 60 := by
    intro m' g
    refine ⟨(g 1 3 (by decide)).trans t2, x_F.row g (by decide), x_F.row g (by decide), x_F.row g (by decide), x_F.row g (by decide), fun j a0 a1 => ?_⟩
    rw [x_F.row g (c := 2) (by decide), x_F.row g (c := 8) (by decide), e2 j a0 a1, e3 j a0 a1]; exact e4 j a0 a1
  have ed : g_s (g_dr (m 3) (m 8) x) n = g_s (g_dr (m 192) (m 190) x) n := g_s_en (fun j a b => by simp only [g_dr]; rw [e1 j a b, e3 j a b])
  have er : g_s (g_rm (m 3) (m 2) (m 8) y) n = g_s (g_rm (m 192) (m 189) (m 190) y) n := g_s_en (fun j a b => by simp only [g_rm]; rw [e1 j a b, e2 j a b, e3 j a b])
  have w0 : i_rw m [] (q_up m 0 16 0) := i_rw.clear q_fx.rf
  refine bkX11_pays_0 (P3 := fun r m' => i_rw m [] m' ∧ r = g_s (g_dr (m 192) (m 190) x) n) (fun _ => ?_) (fun _ r3 m3 h3 _ => h3.1.len (by decide))
    (P5 := fun r3 _ r m' => i_rw m [r3] m' ∧ r = g_s (g_rm (m 192) (m 189) (m 190) y) n) (fun _ r3 m3 h3 _ => ?_) (fun _ r3 m3 h3 _ r5 m5 h5 _ => h5.1.len (by simp))
    (P7 := fun r3 _ r5 _ r m' => i_rw m [r3, r5] m' ∧ ((r = 1 ∧ g_pay n (m 3) (m 2) (m 8) (m 12 (6 * x + y)) x y) ∨ (r = 0 ∧ ¬ g_pay n (m 3) (m 2) (m 8) (m 12 (6 * x + y)) x y))) (fun ho r3 m3 h3 _ r5 m5 h5 _ => ?_) (fun ho r3 m3 h3 _ r5 m5 h5 _ r7 m7 h7 _ z => ?_) (fun ho r3 m3 h3 _ r5 m5 h5 _ r7 m7 h7 _ z => ?_) (fun ho => ?_)
  · have g := bnd w0.1
    refine (sp_dropsC qs8 n g.1 t1 (fun j a0 a1 => by have := g.2.2.2.2.2 j a0 a1; omega)).post ?_
    rintro r m' ⟨rfl, rfl⟩
    rw [g.2.1, g.2.2.2.1]
    exact ⟨w0, ed⟩
  · have w := h3.1.tell (v := r3)
    have g := bnd w.1
    refine (sp_roomC qs8 n g.1 t1 g.2.2.2.2.2).post ?_
    rintro r m' ⟨rfl, rfl⟩
    rw [g.2.1, g.2.2.1, g.2.2.2.1]
    exact ⟨w, er⟩
  · have w := h5.1.tell (v := r5)
    have g := bnd w.1
    refine (sp_couldPay qs8 n g.1 t1 g.2.2.2.2.2 ho.1 ho.2.1).post ?_
    rintro r m' ⟨rfl, h⟩
    rw [g.2.1, g.2.2.1, g.2.2.2.1, g.2.2.2.2.1] at h
    exact ⟨w, h⟩
  · have hp : ¬ g_pay n (m 3) (m 2) (m 8) (m 12 (6 * x + y)) x y := by rcases h7.2 with q | q; exact absurd q.1 (by omega); exact q.2
    rw [g_pay_en e1 e2 e3, (e5 (6 * x + y) (by omega) (by omega)).1] at hp
    refine ⟨?_, h7.1.1, ?_⟩
    · unfold a_pays; rw [if_pos ho, if_neg hp]
    · unfold o_pays; rw [if_pos ho, ← h3.2, ← h5.2]; exact h7.1.rc
  · have hp : g_pay n (m 3) (m 2) (m 8) (m 12 (6 * x + y)) x y := by rcases h7.2 with q | q; exact q.2; exact absurd q.1 z
    rw [g_pay_en e1 e2 e3, (e5 (6 * x + y) (by omega) (by omega)).1] at hp
    refine ⟨?_, h7.1.1, ?_⟩
    · unfold a_pays; rw [if_pos ho, if_pos hp]
    · unfold o_pays; rw [if_pos ho, ← h3.2, ← h5.2]; exact h7.1.rc
  · refine ⟨?_, q_fx.rf, ?_⟩
    · unfold a_pays; rw [if_neg ho]
    · unfold o_pays; rw [if_neg ho]; exact ⟨rfl, fun _ => rfl⟩
theorem i_g0rows {m : qm} {c : Int} (hc : c ≠ 188) : q_up m 188 17 0 c = m c := funext fun i => q_up_c hc
theorem rf_pays {k n : Nat} {b : Int} {m : qm} (h : i_B k n m) (x y : Int) : q_Ev yX12_pays cX12_pays 3 (some .int) 4 0 0 [(2, 188), (0, x), (0, y)] (q_sh0, q_rb b, m) (qK (q_rb b) (fun r m1 => r = a_pays n m x y ∧ q_fx x_G m m1 ∧ i_rr m m1 (o_pays n m x y))) := by
  obtain ⟨e1, e2, e3, e4, e5⟩ := i_rows h
  have t1 := h.1.1
  have t3 := h.1.2.2.1
  obtain ⟨t, p, a⟩ := i_g0 h
  refine q_enter (by decide +kernel) (by simp) (Nat.le_of_ble_eq_true rfl) ?_
  -- behind begin(): levelOn is the level
  have bnd : ∀ {m' : qm}, q_fx x_G m m' → (∀ j : Int, 0 ≤ j → j < n → m' 207 j = m 190 j) → m' 188 0 = n ∧ m' 192 = m 192 ∧ m' 189 = m 189 ∧ f_en n (m' 207) (m 190) ∧ m' 197 = m 197 ∧ ∀ j : Int, 0 ≤ j → j < n → 0 ≤ m' 207 j ∧ m' 207 j ≤ m' 189 j ∧ m' 189 j ≤ 60 := by
    intro m' g gl
    refine ⟨(g 188 0 (by decide)).trans t3, x_G.row g (by decide), x_G.row g (by decide), gl, x_G.row g (by decide), fun j a0 a1 => ?_⟩
    rw [x_G.row g (c := 189) (by decide), gl j a0 a1]; exact e4 j a0 a1
  refine bkX12_pays_0 (fun _ => sp_begin n t.2.2.1 t1)
    (P3 := fun _ _ r m' => (i_mw m [] m' ∧ ∀ j : Int, 0 ≤ j → j < n → m' 207 j = m 190 j) ∧ r = g_s (g_dr (m 192) (m 190) x) n) (fun _ r2 m2 h2 _ => ?_) (fun _ _ _ _ _ r3 m3 h3 _ => h3.1.1.len (by decide))
    (P5 := fun _ _ r3 _ r m' => (i_mw m [r3] m' ∧ ∀ j : Int, 0 ≤ j → j < n → m' 207 j = m 190 j) ∧ r = g_s (g_rm (m 192) (m 189) (m 190) y) n) (fun _ _ _ _ _ r3 m3 h3 _ => ?_) (fun _ _ _ _ _ r3 m3 h3 _ r5 m5 h5 _ => h5.1.1.len (by simp))
    (P7 := fun _ _ r3 _ r5 _ r m' => i_mw m [r3, r5] m' ∧ ((r = 1 ∧ g_pay n (m 192) (m 189) (m 190) (m 197 (6 * x + y)) x y) ∨ (r = 0 ∧ ¬ g_pay n (m 192) (m 189) (m 190) (m 197 (6 * x + y)) x y))) (fun ho _ _ _ _ r3 m3 h3 _ r5 m5 h5 _ => ?_) (fun ho _ _ _ _ r3 m3 h3 _ r5 m5 h5 _ r7 m7 h7 _ z => ?_) (fun ho _ _ _ _ r3 m3 h3 _ r5 m5 h5 _ r7 m7 h7 _ z => ?_) (fun ho => ?_)
  · have w : i_mw m [] (q_up m2 188 16 0) := i_mw.clear (i_g0x.tr (h2.2.fx (by intro c hc i; simp at hc; simp only [x_G]; omega)))
    have wl : ∀ j : Int, 0 ≤ j → j < n → q_up m2 188 16 0 207 j = m 190 j := fun j a0 a1 => by rw [q_up_c (by decide), (h2.1 j a0 a1).1, q_up_c (by decide)]
    have g := bnd w.1 wl
    refine (sp_dropsM n g.1 t1 (fun j a0 a1 => by have := g.2.2.2.2.2 j a0 a1; omega)).post ?_
    rintro r m' ⟨rfl, rfl⟩
    refine ⟨⟨w, wl⟩, ?_⟩
    rw [g.2.1]
    exact g_s_en (fun j a b => by simp only [g_dr]; rw [g.2.2.2.1 j a b])
  · have w := h3.1.1.tell (v := r3)
    have wl : ∀ j : Int, 0 ≤ j → j < n → q_up (q_up m3 199 (m3 188 16) r3) 188 16 (m3 188 16 + 1) 207 j = m 190 j := fun j a0 a1 => by rw [q_up_c (by decide), q_up_c (by decide)]; exact h3.1.2 j a0 a1
    have g := bnd w.1 wl
    refine (sp_roomM n g.1 t1 g.2.2.2.2.2).post ?_
    rintro r m' ⟨rfl, rfl⟩
    refine ⟨⟨w, wl⟩, ?_⟩
    rw [g.2.1, g.2.2.1]
    exact g_s_en (fun j a b => by simp only [g_rm]; rw [g.2.2.2.1 j a b])
  · have w := h5.1.1.tell (v := r5)
    have wl : ∀ j : Int, 0 ≤ j → j < n → q_up (q_up m5 199 (m5 188 16) r5) 188 16 (m5 188 16 + 1) 207 j = m 190 j := fun j a0 a1 => by rw [q_up_c (by decide), q_up_c (by decide)]; exact h5.1.2 j a0 a1
    have g := bnd w.1 wl
    refine (sp_canPay n g.1 t1 g.2.2.2.2.2 (by omega) (by omega)).post ?_
    rintro r m' ⟨rfl, h⟩
    rw [g.2.1, g.2.2.1, g.2.2.2.2.1, g_pay_en (fun _ _ _ => rfl) (fun _ _ _ => rfl) g.2.2.2.1] at h
    exact ⟨w, h⟩
  · have hp : ¬ g_pay n (m 192) (m 189) (m 190) (m 197 (6 * x + y)) x y := by rcases h7.2 with q | q; exact absurd q.1 (by omega); exact q.2
    refine ⟨?_, h7.1.1, ?_⟩
    · unfold a_pays; rw [if_pos (by omega), if_neg hp]
    · unfold o_pays; rw [if_pos (by omega), ← h3.2, ← h5.2]; exact h7.1.rr
  · have hp : g_pay n (m 192) (m 189) (m 190) (m 197 (6 * x + y)) x y := by rcases h7.2 with q | q; exact q.2; exact absurd q.1 z
    refine ⟨?_, h7.1.1, ?_⟩
    · unfold a_pays; rw [if_pos (by omega), if_pos hp]
    · unfold o_pays; rw [if_pos (by omega), ← h3.2, ← h5.2]; exact h7.1.rr
  · refine ⟨?_, i_g0x, ?_⟩
    · unfold a_pays; rw [if_neg (by omega)]
    · unfold o_pays; rw [if_neg (by omega)]; exact i_g0r
theorem op_pays {LW : qm → Prop} (hL : i_Lf LW) {k : Nat} {b : Int} {m : qm} (I : i_I LW k m) (x y : Int) :
    q_Ev yX11_pays cX11_pays 3 (some .int) 3 0 0 [(2, 0), (0, x), (0, y)] (q_sh0, q_rb b, m) (qK (q_rb b) (fun r m1 => q_Ev yX12_pays cX12_pays 3 (some .int) 4 0 0 [(2, 188), (0, x), (0, y)] (q_sh0, q_rb b, m1) (i_O LW (k + 1) r))) := by
  have I2 := I
  obtain ⟨n, t, p, a, x', r, s, u, kk, l⟩ := I2
  refine i_join hL I (o := o_pays n m x y) (fun l z => ?_) (cl_pays ⟨t, p, a⟩ x y) (fun m1 f1 => (rf_pays (i_B.fr (show i_B k n m from ⟨t, p, a⟩) f1 x_F_B) x y).post (fun r m2 z => ⟨z.1.trans ?_, z.2.1, ?_⟩)) x_F_A x_G_A x_F_c x_G_c
  · unfold o_pays at z
    split at z
    · cases z; simp
    · cases z
  · unfold a_pays; rw [x_F.row f1 (c := 192) (by decide), x_F.row f1 (c := 189) (by decide), x_F.row f1 (c := 190) (by decide), x_F.row f1 (c := 197) (by decide)]
  · have z2 := z.2.2
    unfold o_pays at z2 ⊢
    rw [x_F.row f1 (c := 192) (by decide), x_F.row f1 (c := 189) (by decide), x_F.row f1 (c := 190) (by decide)] at z2
    exact z2
