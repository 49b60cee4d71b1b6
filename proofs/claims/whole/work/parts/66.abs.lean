/-! ===== water told apart from both memories ===== -/
/-- levels, wax, what is lost; drops; debts; bells; when last waxed -/
abbrev a_W : Type := f_S × (Int → Int → Int) × (Int → Int) × Int × Int
def a_of (m : qm) : a_W := ((m 190, m 195, m 188 11), fun j k => m 196 (60 * j + k), m 197, m 188 10, m 188 12)
def a_row (f : Int → Int) : a_W := ((fun j => f (540 + 2 * j), fun j => f (540 + 2 * j + 1), f 595), fun j k => f (60 * j + k), fun d => f (558 + d), f 594, f 596)
def a_eq (n : Nat) (A B : a_W) : Prop := f_eq n A.1 B.1 ∧ (∀ j k : Int, 0 ≤ j → j < n → 0 ≤ k → k < A.1.1 j → A.2.1 j k = B.2.1 j k) ∧ (∀ d, 0 ≤ d → d < 36 → A.2.2.1 d = B.2.2.1 d) ∧ A.2.2.2.1 = B.2.2.2.1 ∧ A.2.2.2.2 = B.2.2.2.2
theorem a_eq.rf {n : Nat} {A : a_W} : a_eq n A A := ⟨f_eq.rf, fun _ _ _ _ _ _ => rfl, fun _ _ _ => rfl, rfl, rfl⟩
theorem a_eq.sy {n : Nat} {A B : a_W} (h : a_eq n A B) : a_eq n B A := ⟨h.1.sy, fun j k a b c d => (h.2.1 j k a b c (by rw [(h.1.1 j a b).1]; exact d)).symm, fun d a b => (h.2.2.1 d a b).symm, h.2.2.2.1.symm, h.2.2.2.2.symm⟩
theorem a_eq.tr {n : Nat} {A B C : a_W} (h : a_eq n A B) (g : a_eq n B C) : a_eq n A C := ⟨h.1.tr g.1, fun j k a b c d => (h.2.1 j k a b c d).trans (g.2.1 j k a b c (by rw [← (h.1.1 j a b).1]; exact d)), fun d a b => (h.2.2.1 d a b).trans (g.2.2.1 d a b), h.2.2.2.1.trans g.2.2.2.1, h.2.2.2.2.trans g.2.2.2.2⟩
/-- a state of the class has this water -/
def c_W (m : qm) (s : Int) (n : Nat) (A : a_W) : Prop := (∀ j : Int, 0 ≤ j → j < n → w_j m s j (A.1.1 j) (A.2.1 j) ∧ m (s + 4) j = A.1.2.1 j) ∧ (∀ d, 0 ≤ d → d < 36 → m (s + 7) d = A.2.2.1 d) ∧ m s 8 = A.2.2.2.1 ∧ (∀ o, 0 ≤ o → o < 7 → 0 ≤ m (s + 8) o) ∧ m (s + 8) 0 + m (s + 8) 1 + m (s + 8) 2 + m (s + 8) 3 + m (s + 8) 4 + m (s + 8) 5 + m (s + 8) 6 = A.1.2.2 ∧ m s 9 = if A.2.2.2.2 = A.2.2.2.1 then 1 else 0
/-- this water is as it must be -/
def a_V (B : Int) (n : Nat) (c : Int → Int) (A : a_W) : Prop := (∀ j : Int, 0 ≤ j → j < n → 0 ≤ A.1.1 j ∧ A.1.1 j ≤ c j ∧ 0 ≤ A.1.2.1 j ∧ A.1.2.1 j ≤ 99) ∧ b_r n A.1 A.2.1 ∧ (∀ d, 0 ≤ d → d < 36 → 0 ≤ A.2.2.1 d ∧ A.2.2.1 d ≤ 999) ∧ (∀ x, 0 ≤ x → x < 6 → A.2.2.1 (7 * x) = 0) ∧ 0 ≤ A.2.2.2.1 ∧ A.2.2.2.1 ≤ B ∧ 0 ≤ A.1.2.2 ∧ A.1.2.2 ≤ 81 * A.2.2.2.1 ∧ -1 ≤ A.2.2.2.2 ∧ A.2.2.2.2 ≤ A.2.2.2.1
theorem c_W.en {m : qm} {s : Int} {n : Nat} {A A' : a_W} (h : c_W m s n A) (e : a_eq n A A') : c_W m s n A' := by
  obtain ⟨a, b, c, d, f, g⟩ := h
  obtain ⟨e1, e2, e3, e4, e5⟩ := e
  refine ⟨fun j j0 j1 => ⟨?_, (a j j0 j1).2.trans (e1.1 j j0 j1).2⟩, fun x x0 x1 => (b x x0 x1).trans (e3 x x0 x1), c.trans e4, d, f.trans e1.2, by rw [← e4, ← e5]; exact g⟩
  rw [← (e1.1 j j0 j1).1]
  exact (a j j0 j1).1.en (fun k k0 k1 => e2 j k j0 j1 k0 k1)
theorem a_V.en {B : Int} {n : Nat} {c c' : Int → Int} {A A' : a_W} (h : a_V B n c A) (e : a_eq n A A') (hc : f_en n c c') : a_V B n c' A' := by
  obtain ⟨a, r, b, d, f, g, h1, h2, h3, h4⟩ := h
  obtain ⟨e1, e2, e3, e4, e5⟩ := e
  have e6 := e1.2
  refine ⟨fun j j0 j1 => ?_, fun j k j0 j1 k0 k1 => ?_, fun x x0 x1 => by rw [← e3 x x0 x1]; exact b x x0 x1, fun x x0 x1 => by rw [← e3 _ (by omega) (by omega)]; exact d x x0 x1, by omega, by omega, by omega, by omega, by omega, by omega⟩
  · have := a j j0 j1
    rw [← (e1.1 j j0 j1).1, ← (e1.1 j j0 j1).2, ← hc j j0 j1]; exact this
  · rw [← (e1.1 j j0 j1).1] at k1
    rw [← e2 j k j0 j1 k0 k1]; exact r j k j0 j1 k0 k1
theorem a_V.mo {B B' : Int} {n : Nat} {c : Int → Int} {A : a_W} (h : a_V B n c A) (hb : B ≤ B') : a_V B' n c A := by
  obtain ⟨a, r, b, d, f, g, h1⟩ := h
  exact ⟨a, r, b, d, f, by omega, h1⟩
theorem c_W_of {m : qm} {s : Int} {n : Nat} {dr lv wx db : Int → Int} {be lo wt : Int} (h : i_W m s n dr lv wx db be lo wt) : c_W m s n ((lv, wx, lo), fun j k => dr (60 * j + k), db, be, wt) := by
  obtain ⟨a, b, c, d, f, g⟩ := h
  exact ⟨fun j j0 j1 => ⟨⟨(a j j0 j1).1, (a j j0 j1).2.2.1, (a j j0 j1).2.2.2.1, (a j j0 j1).2.2.2.2⟩, (a j j0 j1).2.1⟩, b, c, d, f, g⟩
theorem c_W_to {m : qm} {s : Int} {n : Nat} {dr lv wx db : Int → Int} {be lo wt : Int} (h : c_W m s n ((lv, wx, lo), fun j k => dr (60 * j + k), db, be, wt)) : i_W m s n dr lv wx db be lo wt := by
  obtain ⟨a, b, c, d, f, g⟩ := h
  exact ⟨fun j j0 j1 => ⟨(a j j0 j1).1.1, (a j j0 j1).2, (a j j0 j1).1.2.1, (a j j0 j1).1.2.2.1, (a j j0 j1).1.2.2.2⟩, b, c, d, f, g⟩
theorem a_V_of {B : Int} {n : Nat} {hd dr lv wx db : Int → Int} {be lo wt : Int} (h : i_V B n hd dr lv wx db be lo wt) : a_V B n hd ((lv, wx, lo), fun j k => dr (60 * j + k), db, be, wt) := by
  obtain ⟨a, b, c, d, e, f, g, i, j⟩ := h
  exact ⟨fun j j0 j1 => ⟨(a j j0 j1).1, (a j j0 j1).2.1, (a j j0 j1).2.2.1, (a j j0 j1).2.2.2.1⟩, fun j k j0 j1 k0 k1 => (a j j0 j1).2.2.2.2 k k0 k1, b, c, d, e, f, g, i, j⟩
theorem a_V_to {B : Int} {n : Nat} {hd dr lv wx db : Int → Int} {be lo wt : Int} (h : a_V B n hd ((lv, wx, lo), fun j k => dr (60 * j + k), db, be, wt)) : i_V B n hd dr lv wx db be lo wt := by
  obtain ⟨a, r, b, c, d, e, f, g, i, j⟩ := h
  exact ⟨fun j j0 j1 => ⟨(a j j0 j1).1, (a j j0 j1).2.1, (a j j0 j1).2.2.1, (a j j0 j1).2.2.2, fun k k0 k1 => r j k j0 j1 k0 k1⟩, b, c, d, e, f, g, i, j⟩
/-- the past: what can be undone, the eldest first -/
abbrev a_P : Type := Int × (Int → a_W)
def a_rem (A : a_W) (P : a_P) : a_P := (min 12 (P.1 + 1), fun r => if P.1 = 12 then (if r = 11 then A else P.2 (r + 1)) else (if r = P.1 then A else P.2 r))
def c_P (m : qm) (n : Nat) (P : a_P) : Prop := m 33 2 = P.1 ∧ 0 ≤ P.1 ∧ P.1 ≤ 12 ∧ 0 ≤ m 33 1 ∧ m 33 1 < 12 ∧ ∀ r, 0 ≤ r → r < P.1 → c_W m (35 + 9 * ((m 33 1 + 12 - P.1 + r) % 12)) n (P.2 r)
def r_P (m : qm) (n : Nat) (P : a_P) : Prop := m 188 30 = P.1 ∧ 0 ≤ P.1 ∧ P.1 ≤ 12 ∧ ∀ r, 0 ≤ r → r < P.1 → a_eq n (a_row (fun i => m 204 (597 * r + i))) (P.2 r)
def a_PV (B : Int) (n : Nat) (c : Int → Int) (P : a_P) : Prop := ∀ r, 0 ≤ r → r < P.1 → a_V B n c (P.2 r)
/-- the class has this town, these pipes; the reference has them -/
abbrev a_T : Type := (Int → Int) × (Int → Int) × (Int → Int) × (Int → Int) × (Int → Int)
def c_T (m : qm) (n : Nat) (T : a_T) : Prop := m 1 3 = n ∧ f_en n (m 2) T.1 ∧ f_en n (m 3) T.2.1 ∧ f_en n (m 4) T.2.2.1 ∧ f_en n (m 10) T.2.2.2.1 ∧ f_en n (m 11) T.2.2.2.2
def r_T (m : qm) (n : Nat) (T : a_T) : Prop := m 188 0 = n ∧ f_en n (m 189) T.1 ∧ f_en n (m 192) T.2.1 ∧ f_en n (m 193) T.2.2.1 ∧ f_en n (m 191) T.2.2.2.1 ∧ f_en n (m 194) T.2.2.2.2
def a_TV (n : Nat) (T : a_T) : Prop := n ≤ 9 ∧ ∀ j : Int, 0 ≤ j → j < n → 1 ≤ T.1 j ∧ T.1 j ≤ 60 ∧ 0 ≤ T.2.1 j ∧ T.2.1 j ≤ 5 ∧ 0 ≤ T.2.2.1 j ∧ T.2.2.1 j ≤ 9 ∧ 0 ≤ T.2.2.2.1 j ∧ T.2.2.2.1 j ≤ 9 ∧ (T.2.2.2.2 j = -1 ∨ (0 ≤ T.2.2.2.2 j ∧ T.2.2.2.2 j < n ∧ T.2.2.1 (T.2.2.2.2 j) < T.2.2.1 j))
/-- the reference has this water now -/
def r_W (m : qm) (n : Nat) (A : a_W) : Prop := a_eq n (a_of m) A
theorem a_OK {B : Int} {n : Nat} {T : a_T} {A : a_W} (t : a_TV n T) (v : a_V B n T.1 A) : f_OK n T.2.2.2.2 T.1 T.2.2.2.1 A.1 := by
  refine ⟨t.1, fun j a b => ?_⟩
  have z := t.2 j a b
  have w := v.1 j a b
  refine ⟨?_, by omega, by omega, by omega, by omega, by omega, by omega, by omega, by omega⟩
  rcases z.2.2.2.2.2.2.2.2 with h | h
  · exact Or.inl h
  · exact Or.inr ⟨h.1, h.2.1⟩
/-- the invariant's town, pipes, water and past, told so -/
def a_Tof (m : qm) : a_T := (m 189, m 192, m 193, m 191, m 194)
def a_Pof (m : qm) : a_P := (m 188 30, fun r => a_row (fun i => m 204 (597 * r + i)))
theorem a_T_of {n : Nat} {m : qm} (t : i_T n m) (p : i_P n m) : c_T m n (a_Tof m) ∧ r_T m n (a_Tof m) ∧ a_TV n (a_Tof m) := by
  refine ⟨⟨t.2.1, fun j a b => (t.2.2.2 j a b).1, fun j a b => (t.2.2.2 j a b).2.1, fun j a b => (t.2.2.2 j a b).2.2.1, fun j a b => (p j a b).1, fun j a b => (p j a b).2.2.2.1⟩, ⟨t.2.2.1, fun _ _ _ => rfl, fun _ _ _ => rfl, fun _ _ _ => rfl, fun _ _ _ => rfl, fun _ _ _ => rfl⟩, t.1, fun j a b => ?_⟩
  have z := t.2.2.2 j a b
  have w := p j a b
  exact ⟨z.2.2.2.1, z.2.2.2.2.1, z.2.2.2.2.2.1, z.2.2.2.2.2.2.1, z.2.2.2.2.2.2.2.1, z.2.2.2.2.2.2.2.2, w.2.1, w.2.2.1, w.2.2.2.2⟩
theorem a_N_of {B : Int} {n : Nat} {m : qm} (a : i_N B n m) : c_W m 5 n (a_of m) ∧ r_W m n (a_of m) ∧ a_V B n (m 189) (a_of m) := ⟨c_W_of a.1, a_eq.rf, a_V_of a.2⟩
theorem a_N_to {B : Int} {n : Nat} {m : qm} {A : a_W} {c : Int → Int} (h : c_W m 5 n A) (r : r_W m n A) (v : a_V B n c A) (hc : f_en n c (m 189)) : i_N B n m := ⟨c_W_to (h.en (A' := a_of m) r.sy), a_V_to (v.en (A' := a_of m) r.sy hc)⟩
theorem i_Y_of {B : Int} {m : qm} {s c p : Int} {n : Nat} {hd : Int → Int} (h : i_Y B m s n c p hd) : c_W m s n (a_row (fun i => m c (p + i))) ∧ a_V B n hd (a_row (fun i => m c (p + i))) := by
  have e1 : ∀ j, p + (540 + 2 * j) = p + 540 + 2 * j := fun j => by omega
  have e2 : ∀ j, p + (540 + 2 * j + 1) = p + 540 + 2 * j + 1 := fun j => by omega
  have e3 : ∀ j, p + (558 + j) = p + 558 + j := fun j => by omega
  have z1 := c_W_of h.1
  have z2 := a_V_of h.2
  unfold a_row
  simp only [e1, e2, e3]
  exact ⟨z1, z2⟩
theorem i_Y_to {B : Int} {m : qm} {s c p : Int} {n : Nat} {hd : Int → Int} (h : c_W m s n (a_row (fun i => m c (p + i)))) (v : a_V B n hd (a_row (fun i => m c (p + i)))) : i_Y B m s n c p hd := by
  have e1 : ∀ j, p + (540 + 2 * j) = p + 540 + 2 * j := fun j => by omega
  have e2 : ∀ j, p + (540 + 2 * j + 1) = p + 540 + 2 * j + 1 := fun j => by omega
  have e3 : ∀ j, p + (558 + j) = p + 558 + j := fun j => by omega
  unfold a_row at h v
  simp only [e1, e2, e3] at h v
  exact ⟨c_W_to h, a_V_to v⟩
theorem a_U_of {B : Int} {n : Nat} {m : qm} (u : i_U B n m) : c_P m n (a_Pof m) ∧ r_P m n (a_Pof m) ∧ a_PV B n (m 189) (a_Pof m) := by
  obtain ⟨u1, u2, u3, u4, u5, u6⟩ := u
  exact ⟨⟨u1, u2, u3, u4, u5, fun r r0 r1 => (i_Y_of (u6 r r0 r1)).1⟩, ⟨rfl, u2, u3, fun r r0 r1 => a_eq.rf⟩, fun r r0 r1 => (i_Y_of (u6 r r0 r1)).2⟩
theorem a_U_to {B : Int} {n : Nat} {m : qm} {P : a_P} {c : Int → Int} (h : c_P m n P) (r : r_P m n P) (v : a_PV B n c P) (hc : f_en n c (m 189)) : i_U B n m := by
  obtain ⟨u1, u2, u3, u4, u5, u6⟩ := h
  obtain ⟨r1, r2, r3, r4⟩ := r
  refine ⟨by omega, by omega, by omega, u4, u5, fun q q0 q1 => ?_⟩
  rw [r1] at q1 ⊢
  have e := (r4 q q0 q1).sy
  exact i_Y_to ((u6 q q0 q1).en e) ((v q q0 q1).en e hc)
theorem c_W.cg {m m' : qm} {s s' : Int} {n : Nat} {A : a_W} (h : c_W m s n A) (hn : n ≤ 9) (hl : ∀ j : Int, 0 ≤ j → j < n → A.1.1 j ≤ 60) (hc : w_cp m s m' s') : c_W m' s' n A := by
  obtain ⟨a, b, d, e, f, g⟩ := h
  obtain ⟨c1, c2, c3, c4, c5, c6⟩ := hc
  refine ⟨fun j j0 j1 => ?_, fun d d0 d1 => (c3 d d0 d1).trans (b d d0 d1), c5.trans d, fun o o0 o1 => by rw [c4 o o0 o1]; exact e o o0 o1, ?_, c6.trans g⟩
  · obtain ⟨⟨p1, p3, p4, p5⟩, p2⟩ := a j j0 j1
    obtain ⟨q1, q2, q3⟩ := c2 j j0 (by omega)
    have l6 := hl j j0 j1
    refine ⟨⟨q2.trans p1, by omega, by omega, fun k k0 k1 => ?_⟩, q3.trans p2⟩
    rw [q1, c1 _ (by omega) (by omega)]
    exact p5 k k0 k1
  · rw [c4 0 (by decide) (by decide), c4 1 (by decide) (by decide), c4 2 (by decide) (by decide), c4 3 (by decide) (by decide), c4 4 (by decide) (by decide), c4 5 (by decide) (by decide), c4 6 (by decide) (by decide)]; exact f
theorem c_W.fr {m m' : qm} {s : Int} {n : Nat} {A : a_W} {X : Int → Int → Prop} (h : c_W m s n A) (hf : q_fx X m m') (hd : ∀ c i, w_z s c i → ¬ X c i) : c_W m' s n A := by
  have e : ∀ c i, w_z s c i → m' c i = m c i := fun c i z => hf c i (hd c i z)
  obtain ⟨a, b, d, e1, f, g⟩ := h
  have e8 : ∀ o, m' (s + 8) o = m (s + 8) o := fun o => e _ _ (by unfold w_z; omega)
  refine ⟨fun j j0 j1 => ⟨(a j j0 j1).1.fr (e _ _ (by unfold w_z; omega)) (e _ _ (by unfold w_z; omega)) (fun i _ _ => e _ _ (by unfold w_z; omega)), (e _ _ (by unfold w_z; omega)).trans (a j j0 j1).2⟩, fun d d0 d1 => (e _ _ (by unfold w_z; omega)).trans (b d d0 d1), (e _ _ (Or.inl ⟨rfl, by decide⟩)).trans d, fun o o0 o1 => by rw [e8]; exact e1 o o0 o1, by rw [e8, e8, e8, e8, e8, e8, e8]; exact f, (e _ _ (Or.inl ⟨rfl, by decide⟩)).trans g⟩
theorem c_P.fr {m m' : qm} {n : Nat} {P : a_P} {X : Int → Int → Prop} (h : c_P m n P) (hf : q_fx X m m') (hd : ∀ c i, x_Cr c i → ¬ X c i) : c_P m' n P := by
  have e : ∀ c i, x_Cr c i → m' c i = m c i := fun c i z => hf c i (hd c i z)
  obtain ⟨u1, u2, u3, u4, u5, u6⟩ := h
  have e1 := e 33 1 (by decide)
  have e2 := e 33 2 (by decide)
  refine ⟨by omega, u2, u3, by omega, by omega, fun r r0 r1 => ?_⟩
  rw [e1]
  exact (u6 r r0 r1).fr hf (fun c i z => hd c i (by unfold w_z at z; unfold x_Cr; omega))
theorem r_P.fr {m m' : qm} {n : Nat} {P : a_P} {X : Int → Int → Prop} (h : r_P m n P) (hf : q_fx X m m') (hd : ∀ c i, x_Mr c i → ¬ X c i) : r_P m' n P := by
  have e : ∀ c i, x_Mr c i → m' c i = m c i := fun c i z => hf c i (hd c i z)
  obtain ⟨u1, u2, u3, u4⟩ := h
  refine ⟨(e 188 30 (by decide)).trans u1, u2, u3, fun r r0 r1 => ?_⟩
  have : (fun i => m' 204 (597 * r + i)) = fun i => m 204 (597 * r + i) := funext fun i => e _ _ (Or.inl rfl)
  rw [this]
  exact u4 r r0 r1
theorem c_T.fr {m m' : qm} {n : Nat} {T : a_T} {X : Int → Int → Prop} (h : c_T m n T) (hf : q_fx X m m') (hd : ∀ c i, (c = 1 ∧ i = 3) ∨ (2 ≤ c ∧ c ≤ 4) ∨ c = 10 ∨ c = 11 → ¬ X c i) : c_T m' n T := by
  have e : ∀ c i, (c = 1 ∧ i = 3) ∨ (2 ≤ c ∧ c ≤ 4) ∨ c = 10 ∨ c = 11 → m' c i = m c i := fun c i z => hf c i (hd c i z)
  obtain ⟨a, b, c, d, f, g⟩ := h
  exact ⟨(e _ _ (by omega)).trans a, fun j x y => (e _ _ (by omega)).trans (b j x y), fun j x y => (e _ _ (by omega)).trans (c j x y), fun j x y => (e _ _ (by omega)).trans (d j x y), fun j x y => (e _ _ (by omega)).trans (f j x y), fun j x y => (e _ _ (by omega)).trans (g j x y)⟩
theorem r_T.fr {m m' : qm} {n : Nat} {T : a_T} {X : Int → Int → Prop} (h : r_T m n T) (hf : q_fx X m m') (hd : ∀ c i, (c = 188 ∧ i = 0) ∨ c = 189 ∨ (191 ≤ c ∧ c ≤ 194) → ¬ X c i) : r_T m' n T := by
  have e : ∀ c i, (c = 188 ∧ i = 0) ∨ c = 189 ∨ (191 ≤ c ∧ c ≤ 194) → m' c i = m c i := fun c i z => hf c i (hd c i z)
  obtain ⟨a, b, c, d, f, g⟩ := h
  exact ⟨(e _ _ (by omega)).trans a, fun j x y => (e _ _ (by omega)).trans (b j x y), fun j x y => (e _ _ (by omega)).trans (c j x y), fun j x y => (e _ _ (by omega)).trans (d j x y), fun j x y => (e _ _ (by omega)).trans (f j x y), fun j x y => (e _ _ (by omega)).trans (g j x y)⟩
theorem r_W.fr {m m' : qm} {n : Nat} {A : a_W} {X : Int → Int → Prop} (h : r_W m n A) (hf : q_fx X m m') (hd : ∀ c i, c = 190 ∨ c = 195 ∨ c = 196 ∨ c = 197 ∨ (c = 188 ∧ 10 ≤ i ∧ i ≤ 12) → ¬ X c i) : r_W m' n A := by
  have e : ∀ c i, c = 190 ∨ c = 195 ∨ c = 196 ∨ c = 197 ∨ (c = 188 ∧ 10 ≤ i ∧ i ≤ 12) → m' c i = m c i := fun c i z => hf c i (hd c i z)
  have : a_of m' = a_of m := by
    unfold a_of
    rw [show m' 190 = m 190 from funext fun i => e _ _ (by omega), show m' 195 = m 195 from funext fun i => e _ _ (by omega), show m' 196 = m 196 from funext fun i => e _ _ (by omega), show m' 197 = m 197 from funext fun i => e _ _ (by omega), e 188 10 (by omega), e 188 11 (by omega), e 188 12 (by omega)]
  unfold r_W
  rw [this]
  exact h
theorem a_row_L {m : qm} {n : Nat} (hn : n ≤ 9) (hl : ∀ j : Int, 0 ≤ j → j < n → m 190 j ≤ 60) : a_eq n (a_row (y_L m)) (a_of m) := by
  refine ⟨⟨fun j a b => ⟨y_L1 a (by omega), y_L2 a (by omega)⟩, y_L5⟩, fun j k a b c d => ?_, fun d a b => y_L3 a b, y_L4, y_L6⟩
  have e : y_L m (540 + 2 * j) = m 190 j := y_L1 a (by omega)
  have l := hl j a b
  simp only [a_row] at d
  exact y_L0 (by omega)
theorem a_row_en {f g : Int → Int} {n : Nat} (hn : n ≤ 9) (h : ∀ i, 0 ≤ i → i < 597 → f i = g i) (hl : ∀ j : Int, 0 ≤ j → j < n → f (540 + 2 * j) ≤ 60) : a_eq n (a_row f) (a_row g) := by
  refine ⟨⟨fun j a b => ⟨h _ (by omega) (by omega), h _ (by omega) (by omega)⟩, h _ (by decide) (by decide)⟩, fun j k a b c d => ?_, fun d a b => h _ (by omega) (by omega), h _ (by decide) (by decide), h _ (by decide) (by decide)⟩
  have l := hl j a b
  simp only [a_row] at d
  exact h _ (by omega) (by omega)
/-- remembering, on both sides -/
theorem c_P.rem {m m' : qm} {n : Nat} {A : a_W} {P : a_P} {B : Int} {c : Int → Int} (hn : n ≤ 9) (hc6 : ∀ j : Int, 0 ≤ j → j < n → c j ≤ 60) (h : c_P m n P) (hA : c_W m 5 n A) (v : a_V B n c A) (pv : a_PV B n c P) (hC : u_C m m') : c_P m' n (a_rem A P) := by
  obtain ⟨u1, u2, u3, u4, u5, u6⟩ := h
  have c1 := hC.1
  have c2 := hC.2.1
  have e0 : (a_rem A P).1 = min 12 (P.1 + 1) := rfl
  refine ⟨by rw [e0]; omega, by rw [e0]; omega, by rw [e0]; omega, by omega, by omega, fun r r0 r1 => ?_⟩
  rw [e0] at r1 ⊢
  by_cases hr : r = min 12 (P.1 + 1) - 1
  · rw [show (m' 33 1 + 12 - min 12 (P.1 + 1) + r) % 12 = m 33 1 by omega]
    have e1 : (a_rem A P).2 r = A := by
      show (if P.1 = 12 then (if r = 11 then A else P.2 (r + 1)) else (if r = P.1 then A else P.2 r)) = A
      by_cases h12 : P.1 = 12
      · rw [if_pos h12, if_pos (by omega)]
      · rw [if_neg h12, if_pos (by omega)]
    rw [e1]
    exact hA.cg hn (fun j a b => Int.le_trans (v.1 j a b).2.1 (hc6 j a b)) hC.2.2.1
  · generalize hr' : r + (if P.1 = 12 then 1 else 0) = r'
    have hb : 0 ≤ r' ∧ r' < P.1 := by split at hr' <;> omega
    have hs : (m' 33 1 + 12 - min 12 (P.1 + 1) + r) % 12 = (m 33 1 + 12 - P.1 + r') % 12 := by split at hr' <;> omega
    have hne : (m 33 1 + 12 - P.1 + r') % 12 ≠ m 33 1 := by split at hr' <;> omega
    have e1 : (a_rem A P).2 r = P.2 r' := by
      show (if P.1 = 12 then (if r = 11 then A else P.2 (r + 1)) else (if r = P.1 then A else P.2 r)) = P.2 r'
      by_cases h12 : P.1 = 12
      · rw [if_pos h12] at hr' ⊢; rw [if_neg (by omega), hr']
      · rw [if_neg h12] at hr' ⊢; rw [if_neg (by omega), ← hr', Int.add_zero]
    rw [hs, e1]
    refine (u6 r' hb.1 hb.2).fr (X := fun c i => ¬ (35 ≤ c ∧ c ≤ 142 ∧ ¬ (35 + 9 * m 33 1 ≤ c ∧ c < 44 + 9 * m 33 1))) (fun c i z => ?_) (fun c i z => ?_)
    · have z := Classical.not_not.mp z
      exact hC.2.2.2 c i z.1 z.2.1 z.2.2
    · unfold w_z at z
      omega
theorem r_P.rem {m m' : qm} {n : Nat} {A : a_W} {P : a_P} {B : Int} {c : Int → Int} (hn : n ≤ 9) (hc6 : ∀ j : Int, 0 ≤ j → j < n → c j ≤ 60) (h : r_P m n P) (hA : r_W m n A) (v : a_V B n c A) (pv : a_PV B n c P) (hM : u_M m m') : r_P m' n (a_rem A P) := by
  obtain ⟨u1, u2, u3, u4⟩ := h
  have m1 := hM.1
  have e0 : (a_rem A P).1 = min 12 (P.1 + 1) := rfl
  refine ⟨by rw [e0]; omega, by rw [e0]; omega, by rw [e0]; omega, fun r r0 r1 => ?_⟩
  rw [e0] at r1
  by_cases hr : r = min 12 (P.1 + 1) - 1
  · have e1 : (a_rem A P).2 r = A := by
      show (if P.1 = 12 then (if r = 11 then A else P.2 (r + 1)) else (if r = P.1 then A else P.2 r)) = A
      by_cases h12 : P.1 = 12
      · rw [if_pos h12, if_pos (by omega)]
      · rw [if_neg h12, if_pos (by omega)]
    rw [e1]
    have hl : ∀ j : Int, 0 ≤ j → j < n → m 190 j ≤ 60 := fun j a b => by
      have e := (hA.1.1 j a b).1
      have := (v.1 j a b).2.1
      have := hc6 j a b
      simp only [a_of] at e
      omega
    refine (a_eq.tr ?_ (a_row_L hn hl)).tr hA
    refine (a_row_en hn (fun i i0 i1 => ?_) (fun j a b => by rw [y_L1 a (by omega)]; exact hl j a b)).sy
    have := hM.2.2 i i0 i1
    rw [m1, show min 12 (m 188 30 + 1) - 1 = r by omega] at this
    exact this.symm
  · generalize hr' : r + (if P.1 = 12 then 1 else 0) = r'
    have hb : 0 ≤ r' ∧ r' < P.1 := by split at hr' <;> omega
    have e1 : (a_rem A P).2 r = P.2 r' := by
      show (if P.1 = 12 then (if r = 11 then A else P.2 (r + 1)) else (if r = P.1 then A else P.2 r)) = P.2 r'
      by_cases h12 : P.1 = 12
      · rw [if_pos h12] at hr' ⊢; rw [if_neg (by omega), hr']
      · rw [if_neg h12] at hr' ⊢; rw [if_neg (by omega), ← hr', Int.add_zero]
    rw [e1]
    refine a_eq.tr ?_ (u4 r' hb.1 hb.2)
    refine (a_row_en hn (fun i i0 i1 => ?_) (fun j a b => ?_)).sy
    · have := hM.2.1 r i r0 (by omega) i0 i1
      rw [u1, hr'] at this
      exact this.symm
    · have e := ((u4 r' hb.1 hb.2).1.1 j a b).1
      have := ((pv r' hb.1 hb.2).1 j a b).2.1
      have := hc6 j a b
      simp only [a_row] at e
      omega
theorem a_PV.rem {B : Int} {n : Nat} {c : Int → Int} {A : a_W} {P : a_P} (h0 : 0 ≤ P.1 ∧ P.1 ≤ 12) (v : a_V B n c A) (pv : a_PV B n c P) : a_PV B n c (a_rem A P) := by
  intro r r0 r1
  show a_V B n c (if P.1 = 12 then (if r = 11 then A else P.2 (r + 1)) else (if r = P.1 then A else P.2 r))
  have e0 : (a_rem A P).1 = min 12 (P.1 + 1) := rfl
  rw [e0] at r1
  split
  · split
    · exact v
    · exact pv _ (by omega) (by omega)
  · split
    · exact v
    · exact pv _ (by omega) (by omega)
