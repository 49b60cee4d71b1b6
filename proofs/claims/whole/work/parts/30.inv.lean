/-! ===== what holds between two calls: the class's cells against the reference's ===== -/
/-- a state of the class holds this water -/
def i_W (m : qm) (s n : Int) (dr lv wx db : Int → Int) (be lo wt : Int) : Prop :=
  (∀ j, 0 ≤ j → j < n → m (s + 3) j = lv j ∧ m (s + 4) j = wx j ∧ 0 ≤ m (s + 2) j ∧ m (s + 2) j < 60 ∧ ∀ k, 0 ≤ k → k < lv j → m (s + 1) (60 * j + (m (s + 2) j + k) % 60) = dr (60 * j + k)) ∧
  (∀ d, 0 ≤ d → d < 36 → m (s + 7) d = db d) ∧ m s 8 = be ∧ (∀ o, 0 ≤ o → o < 7 → 0 ≤ m (s + 8) o) ∧ m (s + 8) 0 + m (s + 8) 1 + m (s + 8) 2 + m (s + 8) 3 + m (s + 8) 4 + m (s + 8) 5 + m (s + 8) 6 = lo ∧ m s 9 = if wt = be then 1 else 0
/-- this water is as it must be -/
def i_V (B : Int) (n : Int) (hd dr lv wx db : Int → Int) (be lo wt : Int) : Prop :=
  (∀ j, 0 ≤ j → j < n → 0 ≤ lv j ∧ lv j ≤ hd j ∧ 0 ≤ wx j ∧ wx j ≤ 99 ∧ ∀ k, 0 ≤ k → k < lv j → 0 ≤ dr (60 * j + k) ∧ dr (60 * j + k) ≤ 6) ∧
  (∀ d, 0 ≤ d → d < 36 → 0 ≤ db d ∧ db d ≤ 999) ∧ (∀ a, 0 ≤ a → a < 6 → db (7 * a) = 0) ∧ 0 ≤ be ∧ be ≤ B ∧ 0 ≤ lo ∧ lo ≤ 81 * be ∧ -1 ≤ wt ∧ wt ≤ be
/-- the town -/
def i_T (n : Nat) (m : qm) : Prop := n ≤ 9 ∧ m 1 3 = n ∧ m 188 0 = n ∧ ∀ j : Int, 0 ≤ j → j < n → m 2 j = m 189 j ∧ m 3 j = m 192 j ∧ m 4 j = m 193 j ∧ 1 ≤ m 189 j ∧ m 189 j ≤ 60 ∧ 0 ≤ m 192 j ∧ m 192 j ≤ 5 ∧ 0 ≤ m 193 j ∧ m 193 j ≤ 9
/-- the pipes -/
def i_P (n : Nat) (m : qm) : Prop := ∀ j : Int, 0 ≤ j → j < n → m 10 j = m 191 j ∧ 0 ≤ m 191 j ∧ m 191 j ≤ 9 ∧ m 11 j = m 194 j ∧ (m 194 j = -1 ∨ (0 ≤ m 194 j ∧ m 194 j < n ∧ m 193 (m 194 j) < m 193 j))
/-- the water now -/
def i_N (B : Int) (n : Nat) (m : qm) : Prop := i_W m 5 n (m 196) (m 190) (m 195) (m 197) (m 188 10) (m 188 11) (m 188 12) ∧ i_V B n (m 189) (m 196) (m 190) (m 195) (m 197) (m 188 10) (m 188 11) (m 188 12)
/-- the text -/
def i_X (m : qm) : Prop := m 145 1 = m 188 14 ∧ 0 ≤ m 188 14 ∧ m 188 14 ≤ 80 ∧ ∀ i, 0 ≤ i → i < m 188 14 → m 146 i = m 198 i % 256 ∧ -128 ≤ m 198 i ∧ m 198 i ≤ 127
/-- the row that was told -/
def i_R (m : qm) : Prop := m 0 16 = m 188 16 ∧ 0 ≤ m 188 16 ∧ m 188 16 ≤ 10 ∧ ∀ i, 0 ≤ i → i < m 188 16 → m 169 i = m 199 i
/-- what was seen -/
def i_S (n : Nat) (m : qm) : Prop := m 159 3 = m 188 49 ∧ 0 ≤ m 188 49 ∧ m 188 49 ≤ 10 ∧ ∀ i, 0 ≤ i → i < m 188 49 → m 160 i = m 220 (3 * i) ∧ m 161 i = m 220 (3 * i + 1) ∧ m 162 i = m 220 (3 * i + 2) ∧ 0 ≤ m 220 (3 * i) ∧ m 220 (3 * i) < n ∧ 0 ≤ m 220 (3 * i + 1) ∧ m 220 (3 * i + 1) ≤ 200 ∧ 0 ≤ m 220 (3 * i + 2) ∧ m 220 (3 * i + 2) ≤ 60
/-- water laid into a row of the reference, from a place on -/
def i_Y (B : Int) (m : qm) (s n c p : Int) (hd : Int → Int) : Prop :=
  i_W m s n (fun i => m c (p + i)) (fun j => m c (p + 540 + 2 * j)) (fun j => m c (p + 540 + 2 * j + 1)) (fun d => m c (p + 558 + d)) (m c (p + 594)) (m c (p + 595)) (m c (p + 596)) ∧
  i_V B n hd (fun i => m c (p + i)) (fun j => m c (p + 540 + 2 * j)) (fun j => m c (p + 540 + 2 * j + 1)) (fun d => m c (p + 558 + d)) (m c (p + 594)) (m c (p + 595)) (m c (p + 596))
/-- what can be undone -/
def i_U (B : Int) (n : Nat) (m : qm) : Prop := m 33 2 = m 188 30 ∧ 0 ≤ m 188 30 ∧ m 188 30 ≤ 12 ∧ 0 ≤ m 33 1 ∧ m 33 1 < 12 ∧ ∀ r, 0 ≤ r → r < m 188 30 → i_Y B m (35 + 9 * ((m 33 1 + 12 - m 188 30 + r) % 12)) n 204 (597 * r) (m 189)
/-- what is kept -/
def i_K (B : Int) (n : Nat) (m : qm) : Prop := 0 ≤ m 188 51 ∧ ∀ i, 0 ≤ i → i < 2 → (m 223 i = 0 ∨ m 223 i = 1) ∧ -1 ≤ m 144 i ∧ m 144 i ≤ n ∧ (m 223 i = 0 → m 144 i = -1) ∧ (m 223 i = 1 → m 224 i ≤ m 188 51 ∧ (m 224 i = m 188 51 ↔ m 144 i = n)) ∧
  (m 144 i = n → i_Y B m (170 + 9 * i) n 222 (615 * i) (m 189) ∧ ∀ j : Int, 0 ≤ j → j < n → m (170 + 9 * i + 5) j = m 222 (615 * i + 597 + 2 * j) ∧ m (170 + 9 * i + 6) j = m 222 (615 * i + 597 + 2 * j + 1) ∧ 0 ≤ m 222 (615 * i + 597 + 2 * j) ∧ m 222 (615 * i + 597 + 2 * j) ≤ 9 ∧ (m 222 (615 * i + 597 + 2 * j + 1) = -1 ∨ (0 ≤ m 222 (615 * i + 597 + 2 * j + 1) ∧ m 222 (615 * i + 597 + 2 * j + 1) < n ∧ m 193 (m 222 (615 * i + 597 + 2 * j + 1)) < m 193 j)))
/-- which places each of these reads -/
abbrev x_T (c i : Int) : Prop := (c = 1 ∧ i = 3) ∨ (2 ≤ c ∧ c ≤ 4) ∨ (c = 188 ∧ i = 0) ∨ c = 189 ∨ c = 192 ∨ c = 193
abbrev x_P (c i : Int) : Prop := c = 10 ∨ c = 11 ∨ c = 191 ∨ c = 193 ∨ c = 194
abbrev x_N (c i : Int) : Prop := (c = 5 ∧ 8 ≤ i) ∨ (6 ≤ c ∧ c ≤ 9) ∨ c = 12 ∨ c = 13 ∨ c = 189 ∨ c = 190 ∨ (195 ≤ c ∧ c ≤ 197) ∨ (c = 188 ∧ 10 ≤ i ∧ i ≤ 12)
abbrev x_X (c i : Int) : Prop := (c = 145 ∧ i = 1) ∨ c = 146 ∨ (c = 188 ∧ i = 14) ∨ c = 198
abbrev x_R (c i : Int) : Prop := (c = 0 ∧ i = 16) ∨ c = 169 ∨ (c = 188 ∧ i = 16) ∨ c = 199
abbrev x_S (c i : Int) : Prop := (c = 159 ∧ i = 3) ∨ (160 ≤ c ∧ c ≤ 162) ∨ (c = 188 ∧ i = 49) ∨ c = 220
abbrev x_U (c i : Int) : Prop := (33 ≤ c ∧ c ≤ 142) ∨ (c = 188 ∧ i = 30) ∨ c = 189 ∨ c = 204
abbrev x_K (c i : Int) : Prop := c = 144 ∨ (170 ≤ c ∧ c ≤ 187) ∨ (c = 188 ∧ i = 51) ∨ c = 189 ∨ c = 193 ∨ c = 222 ∨ c = 223 ∨ c = 224
theorem i_W.fr {m m' : qm} {s n : Int} {dr lv wx db dr' lv' wx' db' : Int → Int} {be lo wt be' lo' wt' : Int} (h : i_W m s n dr lv wx db be lo wt) (h1 : ∀ c i, (s < c ∧ c ≤ s + 4) ∨ c = s + 7 ∨ c = s + 8 ∨ (c = s ∧ 8 ≤ i) → m' c i = m c i) (h2 : dr' = dr) (h3 : lv' = lv) (h4 : wx' = wx) (h5 : db' = db) (h6 : be' = be) (h7 : lo' = lo) (h8 : wt' = wt) : i_W m' s n dr' lv' wx' db' be' lo' wt' := by
  subst h2; subst h3; subst h4; subst h5; subst h6; subst h7; subst h8
  obtain ⟨a, b, d, e, f, g⟩ := h
  refine ⟨fun j j0 j1 => ?_, fun d d0 d1 => ?_, ?_, fun o o0 o1 => ?_, ?_, ?_⟩
  · rw [h1 (s + 3) j (by omega), h1 (s + 4) j (by omega), h1 (s + 2) j (by omega)]
    obtain ⟨p1, p2, p3, p4, p5⟩ := a j j0 j1
    refine ⟨p1, p2, p3, p4, fun k k0 k1 => ?_⟩
    rw [h1 (s + 1) _ (by omega)]
    exact p5 k k0 k1
  · rw [h1 (s + 7) d (by omega)]; exact b d d0 d1
  · rw [h1 s 8 (by omega)]; exact d
  · rw [h1 (s + 8) o (by omega)]; exact e o o0 o1
  · rw [h1 (s + 8) 0 (by omega), h1 (s + 8) 1 (by omega), h1 (s + 8) 2 (by omega), h1 (s + 8) 3 (by omega), h1 (s + 8) 4 (by omega), h1 (s + 8) 5 (by omega), h1 (s + 8) 6 (by omega)]; exact f
  · rw [h1 s 9 (by omega)]; exact g
theorem i_V.mo {B B' n : Int} {hd dr lv wx db : Int → Int} {be lo wt : Int} (h : i_V B n hd dr lv wx db be lo wt) (hb : B ≤ B') : i_V B' n hd dr lv wx db be lo wt := by
  obtain ⟨a, b, c, d, e, f⟩ := h
  exact ⟨a, b, c, d, by omega, f⟩
theorem i_Y.fr {B : Int} {m m' : qm} {s n c p : Int} {hd : Int → Int} (h : i_Y B m s n c p hd) (h1 : ∀ c' i, (s < c' ∧ c' ≤ s + 4) ∨ c' = s + 7 ∨ c' = s + 8 ∨ (c' = s ∧ 8 ≤ i) ∨ c' = c → m' c' i = m c' i) : i_Y B m' s n c p hd := by
  have e : ∀ i, m' c i = m c i := fun i => h1 c i (by omega)
  refine ⟨h.1.fr (fun c' i z => h1 c' i (by omega)) (funext fun i => e _) (funext fun i => e _) (funext fun i => e _) (funext fun i => e _) (e _) (e _) (e _), ?_⟩
  have := h.2
  simp only [e]
  exact this
theorem i_Y.mo {B B' : Int} {m : qm} {s n c p : Int} {hd : Int → Int} (h : i_Y B m s n c p hd) (hb : B ≤ B') : i_Y B' m s n c p hd := ⟨h.1, h.2.mo hb⟩
section IFR
variable {B : Int} {n : Nat} {m m' : qm} {X : Int → Int → Prop}
theorem i_T.fr (h : i_T n m) (hf : q_fx X m m') (hd : ∀ c i, x_T c i → ¬ X c i) : i_T n m' := by
  have e : ∀ c i, x_T c i → m' c i = m c i := fun c i z => hf c i (hd c i z)
  obtain ⟨a, b, c, d⟩ := h
  refine ⟨a, by rw [e 1 3 (by decide)]; exact b, by rw [e 188 0 (by decide)]; exact c, fun j j0 j1 => ?_⟩
  rw [e 2 j (by simp [x_T, x_P, x_N, x_X, x_R, x_S, x_U, x_K]), e 3 j (by simp [x_T, x_P, x_N, x_X, x_R, x_S, x_U, x_K]), e 4 j (by simp [x_T, x_P, x_N, x_X, x_R, x_S, x_U, x_K]), e 189 j (by simp [x_T, x_P, x_N, x_X, x_R, x_S, x_U, x_K]), e 192 j (by simp [x_T, x_P, x_N, x_X, x_R, x_S, x_U, x_K]), e 193 j (by simp [x_T, x_P, x_N, x_X, x_R, x_S, x_U, x_K])]
  exact d j j0 j1
theorem i_P.fr (h : i_P n m) (hf : q_fx X m m') (hd : ∀ c i, x_P c i → ¬ X c i) : i_P n m' := by
  have e : ∀ c i, x_P c i → m' c i = m c i := fun c i z => hf c i (hd c i z)
  intro j j0 j1
  rw [e 10 j (by simp [x_T, x_P, x_N, x_X, x_R, x_S, x_U, x_K]), e 191 j (by simp [x_T, x_P, x_N, x_X, x_R, x_S, x_U, x_K]), e 11 j (by simp [x_T, x_P, x_N, x_X, x_R, x_S, x_U, x_K]), e 194 j (by simp [x_T, x_P, x_N, x_X, x_R, x_S, x_U, x_K]), e 193 _ (by simp [x_T, x_P, x_N, x_X, x_R, x_S, x_U, x_K]), e 193 j (by simp [x_T, x_P, x_N, x_X, x_R, x_S, x_U, x_K])]
  exact h j j0 j1
theorem i_N.fr (h : i_N B n m) (hf : q_fx X m m') (hd : ∀ c i, x_N c i → ¬ X c i) : i_N B n m' := by
  have e : ∀ c i, x_N c i → m' c i = m c i := fun c i z => hf c i (hd c i z)
  have r : ∀ c, c = 189 ∨ c = 190 ∨ (195 ≤ c ∧ c ≤ 197) → m' c = m c := fun c z => funext fun i => e c i (by simp only [x_N]; omega)
  refine ⟨h.1.fr (fun c i z => e c i (by simp only [x_N]; omega)) (r 196 (by decide)) (r 190 (by decide)) (r 195 (by decide)) (r 197 (by decide)) (e 188 10 (by decide)) (e 188 11 (by decide)) (e 188 12 (by decide)), ?_⟩
  rw [r 189 (by decide), r 196 (by decide), r 190 (by decide), r 195 (by decide), r 197 (by decide), e 188 10 (by decide), e 188 11 (by decide), e 188 12 (by decide)]
  exact h.2
theorem i_X.fr (h : i_X m) (hf : q_fx X m m') (hd : ∀ c i, x_X c i → ¬ X c i) : i_X m' := by
  have e : ∀ c i, x_X c i → m' c i = m c i := fun c i z => hf c i (hd c i z)
  obtain ⟨a, b, c, d⟩ := h
  rw [← e 145 1 (by decide), ← e 188 14 (by decide)] at a
  rw [← e 188 14 (by decide)] at b c d
  refine ⟨a, b, c, fun i i0 i1 => ?_⟩
  rw [e 146 i (by simp [x_T, x_P, x_N, x_X, x_R, x_S, x_U, x_K]), e 198 i (by simp [x_T, x_P, x_N, x_X, x_R, x_S, x_U, x_K])]
  exact d i i0 i1
theorem i_R.fr (h : i_R m) (hf : q_fx X m m') (hd : ∀ c i, x_R c i → ¬ X c i) : i_R m' := by
  have e : ∀ c i, x_R c i → m' c i = m c i := fun c i z => hf c i (hd c i z)
  obtain ⟨a, b, c, d⟩ := h
  rw [← e 0 16 (by decide), ← e 188 16 (by decide)] at a
  rw [← e 188 16 (by decide)] at b c d
  refine ⟨a, b, c, fun i i0 i1 => ?_⟩
  rw [e 169 i (by simp [x_T, x_P, x_N, x_X, x_R, x_S, x_U, x_K]), e 199 i (by simp [x_T, x_P, x_N, x_X, x_R, x_S, x_U, x_K])]
  exact d i i0 i1
theorem i_S.fr (h : i_S n m) (hf : q_fx X m m') (hd : ∀ c i, x_S c i → ¬ X c i) : i_S n m' := by
  have e : ∀ c i, x_S c i → m' c i = m c i := fun c i z => hf c i (hd c i z)
  obtain ⟨a, b, c, d⟩ := h
  rw [← e 159 3 (by decide), ← e 188 49 (by decide)] at a
  rw [← e 188 49 (by decide)] at b c d
  refine ⟨a, b, c, fun i i0 i1 => ?_⟩
  have e2 : ∀ i, m' 220 i = m 220 i := fun i => e 220 i (by simp [x_T, x_P, x_N, x_X, x_R, x_S, x_U, x_K])
  rw [e 160 i (by simp [x_T, x_P, x_N, x_X, x_R, x_S, x_U, x_K]), e 161 i (by simp [x_T, x_P, x_N, x_X, x_R, x_S, x_U, x_K]), e 162 i (by simp [x_T, x_P, x_N, x_X, x_R, x_S, x_U, x_K]), e2, e2, e2]
  exact d i i0 i1
theorem i_U.fr (h : i_U B n m) (hf : q_fx X m m') (hd : ∀ c i, x_U c i → ¬ X c i) : i_U B n m' := by
  have e : ∀ c i, x_U c i → m' c i = m c i := fun c i z => hf c i (hd c i z)
  obtain ⟨a, b, c, d, d2, g⟩ := h
  have e1 := e 33 1 (by decide)
  have e2 := e 33 2 (by decide)
  have e3 := e 188 30 (by decide)
  have e4 : m' 189 = m 189 := funext fun i => e 189 i (by simp [x_T, x_P, x_N, x_X, x_R, x_S, x_U, x_K])
  refine ⟨by omega, by omega, by omega, by omega, by omega, fun r r0 r1 => ?_⟩
  rw [e1, e3, e4]
  refine (g r r0 (by omega)).fr (fun c' i z => e c' i ?_)
  simp only [x_U]
  omega
theorem i_K.fr (h : i_K B n m) (hf : q_fx X m m') (hd : ∀ c i, x_K c i → ¬ X c i) : i_K B n m' := by
  have e : ∀ c i, x_K c i → m' c i = m c i := fun c i z => hf c i (hd c i z)
  obtain ⟨a, g⟩ := h
  have e1 := e 188 51 (by decide)
  refine ⟨by omega, fun i i0 i1 => ?_⟩
  have e2 := e 223 i (by simp [x_T, x_P, x_N, x_X, x_R, x_S, x_U, x_K])
  have e3 := e 144 i (by simp [x_T, x_P, x_N, x_X, x_R, x_S, x_U, x_K])
  have e5 := e 224 i (by simp [x_T, x_P, x_N, x_X, x_R, x_S, x_U, x_K])
  have e4 : m' 189 = m 189 := funext fun i => e 189 i (by simp [x_T, x_P, x_N, x_X, x_R, x_S, x_U, x_K])
  have e6 : ∀ j, m' 222 j = m 222 j := fun j => e 222 j (by simp [x_T, x_P, x_N, x_X, x_R, x_S, x_U, x_K])
  have e7 : ∀ j, m' 193 j = m 193 j := fun j => e 193 j (by simp [x_T, x_P, x_N, x_X, x_R, x_S, x_U, x_K])
  obtain ⟨g1, g2, g3, g4, g5, g6⟩ := g i i0 i1
  refine ⟨by omega, by omega, by omega, fun z => by rw [e3]; exact g4 (by omega), fun z => by rw [e5, e1, e3]; exact g5 (by omega), fun z => ?_⟩
  obtain ⟨p1, p2⟩ := g6 (by omega)
  refine ⟨by rw [e4]; exact p1.fr (fun c' i' z => e c' i' (by simp only [x_K]; omega)), fun j j0 j1 => ?_⟩
  rw [e (170 + 9 * i + 5) j (by simp only [x_K]; omega), e (170 + 9 * i + 6) j (by simp only [x_K]; omega), e6, e6, e7, e7]
  exact p2 j j0 j1
end IFR
