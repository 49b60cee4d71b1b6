/-! ===== bells ===== -/
def a_bell (n : Nat) (T : a_T) (A : a_W) : a_W := (f_b n T.2.2.2.2 T.1 T.2.2.2.1 A.1, b_f T.2.2.2.2 T.1 (f_o A.1.2.1 T.2.2.2.1 A.1.1) A.1.1 A.2.1 n, A.2.2.1, A.2.2.2.1 + 1, A.2.2.2.2)
def a_bells (n : Nat) (T : a_T) (A : a_W) : Nat → a_W
  | 0 => A
  | v + 1 => a_bell n T (a_bells n T A v)
theorem a_bells_1 {n : Nat} {T : a_T} {A : a_W} : ∀ v : Nat, (a_bells n T A v).1 = f_it n T.2.2.2.2 T.1 T.2.2.2.1 v A.1
  | 0 => rfl
  | v + 1 => by
    show f_b n T.2.2.2.2 T.1 T.2.2.2.1 (a_bells n T A v).1 = _
    rw [a_bells_1 v]; rfl
theorem a_bells_be {n : Nat} {T : a_T} {A : a_W} : ∀ v : Nat, (a_bells n T A v).2.2.2.1 = A.2.2.2.1 + v ∧ (a_bells n T A v).2.2.2.2 = A.2.2.2.2 ∧ (a_bells n T A v).2.2.1 = A.2.2.1
  | 0 => ⟨by simp [a_bells], rfl, rfl⟩
  | v + 1 => by
    have := a_bells_be (n := n) (T := T) (A := A) v
    refine ⟨?_, this.2.1, this.2.2⟩
    show (a_bells n T A v).2.2.2.1 + 1 = _
    omega
theorem a_V.bell {B : Int} {n : Nat} {T : a_T} {A : a_W} (t : a_TV n T) (v : a_V B n T.1 A) : a_V (B + 1) n T.1 (a_bell n T A) := by
  have ok := a_OK t v
  have okb := ok.b
  have d := (f_d_in ok n (Nat.le_refl n)).2
  have h9 := t.1
  obtain ⟨a, r, b, c, e, f, g, h1, h2, h3⟩ := v
  refine ⟨fun j j0 j1 => ?_, fun j k j0 j1 k0 k1 => b_f_in ok r n (Nat.le_refl n) j k j0 j1 k0 k1, b, c, ?_, ?_, ?_, ?_, h2, ?_⟩
  · have z := okb.2 j j0 j1
    have w := a j j0 j1
    exact ⟨z.2.2.2.2.2.2.2.1, z.2.2.2.2.2.2.2.2, z.2.2.2.2.2.1, z.2.2.2.2.2.2.1⟩
  · show 0 ≤ A.2.2.2.1 + 1; omega
  · show A.2.2.2.1 + 1 ≤ B + 1; omega
  · show 0 ≤ A.1.2.2 + _; omega
  · show A.1.2.2 + _ ≤ 81 * (A.2.2.2.1 + 1); omega
  · show A.2.2.2.2 ≤ A.2.2.2.1 + 1; omega
theorem a_V.bells {B : Int} {n : Nat} {T : a_T} {A : a_W} (t : a_TV n T) (v : a_V B n T.1 A) : ∀ w : Nat, a_V (B + w) n T.1 (a_bells n T A w)
  | 0 => by simp only [a_bells, Int.natCast_zero, Int.add_zero]; exact v
  | w + 1 => by
    have := (a_V.bells t v w).bell t
    rw [show B + ((w + 1 : Nat) : Int) = B + w + 1 by omega]
    exact this
/-- a state of the class with the town's jars and its own pipes -/
def c_Q (m : qm) (s : Int) (n : Nat) (T : a_T) : Prop := m 1 3 = n ∧ f_en n (m 2) T.1 ∧ f_en n (m (s + 5)) T.2.2.2.1 ∧ f_en n (m (s + 6)) T.2.2.2.2
theorem c_T.q {m : qm} {n : Nat} {T : a_T} (h : c_T m n T) : c_Q m 5 n T := ⟨h.1, h.2.1, h.2.2.2.2.1, h.2.2.2.2.2⟩
theorem c_Q.fr {m m' : qm} {s : Int} {n : Nat} {T : a_T} {X : Int → Int → Prop} (h : c_Q m s n T) (hf : q_fx X m m') (hd : ∀ c i, (c = 1 ∧ i = 3) ∨ c = 2 ∨ c = s + 5 ∨ c = s + 6 → ¬ X c i) : c_Q m' s n T := by
  have e : ∀ c i, (c = 1 ∧ i = 3) ∨ c = 2 ∨ c = s + 5 ∨ c = s + 6 → m' c i = m c i := fun c i z => hf c i (hd c i z)
  exact ⟨(e _ _ (by omega)).trans h.1, fun j x y => (e _ _ (by omega)).trans (h.2.1 j x y), fun j x y => (e _ _ (by omega)).trans (h.2.2.1 j x y), fun j x y => (e _ _ (by omega)).trans (h.2.2.2 j x y)⟩
theorem c_W.sand {m : qm} {s : Int} {n : Nat} {A : a_W} {B : Int} {c : Int → Int} (h : c_W m s n A) (v : a_V B n c A) (hB : B ≤ 4000000) : ∀ q, 0 ≤ q → q < 7 → 0 ≤ m (s + 8) q ∧ m (s + 8) q ≤ 400000000 := by
  obtain ⟨a, b, d, e, f, g⟩ := h
  obtain ⟨v1, v2, v3, v4, v5, v6, v7, v8, v9⟩ := v
  have e0 := e 0 (by decide) (by decide)
  have e1 := e 1 (by decide) (by decide)
  have e2 := e 2 (by decide) (by decide)
  have e3 := e 3 (by decide) (by decide)
  have e4 := e 4 (by decide) (by decide)
  have e5 := e 5 (by decide) (by decide)
  have e6 := e 6 (by decide) (by decide)
  intro q q0 q1
  have : q = 0 ∨ q = 1 ∨ q = 2 ∨ q = 3 ∨ q = 4 ∨ q = 5 ∨ q = 6 := by omega
  rcases this with h | h | h | h | h | h | h <;> subst h <;> omega
theorem sp_strikeW {b s B : Int} {m : qm} {n : Nat} {T : a_T} {A : a_W} (hs : q_st s) (q : c_Q m s n T) (h : c_W m s n A) (t : a_TV n T) (v : a_V B n T.1 A) (hB : B ≤ 4000000) :
    q_Ev yX0_strike cX0_strike 3 none 4 0 0 [(2, 23), (2, s)] (q_sh0, q_rb b, m) (qK (q_rb b) (fun _ m' => c_W m' s n (a_bell n T A) ∧ (∀ q, 0 ≤ q → q < 7 → m' (s + 8) q = m (s + 8) q + b_s T.2.2.2.2 T.1 (f_o A.1.2.1 T.2.2.2.1 A.1.1) A.1.1 A.2.1 q n) ∧ q_fx (x_St s) m m')) := by
  have ok := a_OK t v
  have hg := qst_gap hs
  obtain ⟨q1, q2, q3, q4⟩ := q
  have st : b_st m s n T.2.2.2.2 T.1 T.2.2.2.1 A.1 A.2.1 (m (s + 8)) A.2.2.2.1 := ⟨q1, q4, q2, q3, h.1, fun _ _ _ => rfl, h.2.2.1⟩
  have v5 := v.2.2.2.2
  refine (sp_strikeS hs st ok v.2.1 (h.sand v hB) (by omega)).post ?_
  rintro r m' ⟨⟨s1, s2, s3, s4, s5, s6, s7⟩, s9, f⟩
  have e7 := b_s_7 ok v.2.1 n (Nat.le_refl n)
  refine ⟨⟨s5, fun d d0 d1 => (f _ _ (by unfold x_St; omega)).trans (h.2.1 d d0 d1), s7, fun o o0 o1 => ?_, ?_, ?_⟩, s6, f⟩
  · rw [s6 o o0 o1]
    have a := h.2.2.2.1 o o0 o1
    have b := (b_s_in (F := A.2.1) (q := o) ok n (Nat.le_refl n)).1
    show 0 ≤ m (s + 8) o + _
    omega
  · rw [s6 0 (by decide) (by decide), s6 1 (by decide) (by decide), s6 2 (by decide) (by decide), s6 3 (by decide) (by decide), s6 4 (by decide) (by decide), s6 5 (by decide) (by decide), s6 6 (by decide) (by decide)]
    have a := h.2.2.2.2.1
    show _ = A.1.2.2 + _
    simp only
    omega
  · rw [s9]
    show (0 : Int) = if A.2.2.2.2 = A.2.2.2.1 + 1 then 1 else 0
    rw [if_neg (by omega)]
theorem sp_goBellW {b B : Int} {m : qm} {n : Nat} {T : a_T} {A : a_W} (q : r_T m n T) (h : r_W m n A) (t : a_TV n T) (v : a_V B n T.1 A) (hB : B ≤ 4000000) :
    q_Ev yX12_goBell cX12_goBell 6 (some .int) 2 0 0 [(2, 188)] (q_sh0, q_rb b, m) (qK (q_rb b) (fun r m' => r_W m' n (a_bell n T A) ∧ r = (a_bell n T A).1.2.2 - A.1.2.2 ∧ q_fx x_Go m m')) := by
  have ok := a_OK t v
  obtain ⟨q1, q2, q3, q4, q5, q6⟩ := q
  obtain ⟨e1, e2, e3, e4, e5⟩ := h
  have v5 := v.2.2.2.2
  have st : b_mt m n T.2.2.2.2 T.1 T.2.2.2.1 A.1 A.2.1 A.2.2.2.1 := ⟨q1, q6, q2, q5, fun j a b => ⟨⟨(e1.1 j a b).1, fun k k0 k1 => e2 j k a b k0 (by rw [(e1.1 j a b).1]; exact k1)⟩, (e1.1 j a b).2⟩, e4⟩
  have lo : m 188 11 = A.1.2.2 := e1.2
  refine (sp_goBellS st ok (by omega) (by rw [lo]; omega)).post ?_
  rintro r m' ⟨⟨s1, s2, s3, s4, s5, s6⟩, s7, s8, f⟩
  have er : (a_bell n T A).1.2.2 = A.1.2.2 + r := by rw [s7]; rfl
  refine ⟨⟨⟨fun j a b => ⟨(s5 j a b).1.1, (s5 j a b).2⟩, ?_⟩, fun j k a b c d => ?_, fun d d0 d1 => (f _ _ (by unfold x_Go; omega)).trans (e3 d d0 d1), s6, (f 188 12 (by decide)).trans e5⟩, by omega, f⟩
  · show m' 188 11 = (a_bell n T A).1.2.2
    rw [er, s8, lo]
  · exact (s5 j a b).1.2 k c (by rw [← (s5 j a b).1.1]; exact d)
/-! sums over the jars -/
theorem sp_empty {b : Int} {mem : qm} (n : Nat) (hn : mem 1 3 = n) (h9 : n ≤ 9) : q_Ev yX11_emptyJars cX11_emptyJars 3 (some .int) 1 0 0 [(2, 0)] (q_sh0, q_rb b, mem) (qK (q_rb b) (fun r m => m = mem ∧ r = g_s (fun j => if mem 8 j = 0 then 1 else 0) n)) := by
  refine q_enter (by decide +kernel) (by simp) (Nat.le_of_ble_eq_true rfl) ?_
  refine bkX11_emptyJars_0 ?_
  have hb : ∀ v : Nat, 0 ≤ g_s (fun j => if mem 8 j = 0 then (1 : Int) else 0) v ∧ g_s (fun j => if mem 8 j = 0 then (1 : Int) else 0) v ≤ 1 * v := fun v => g_s_in (by decide) (fun j a b => by split <;> omega)
  refine q_for1 (A := fun i (x : Int) m => q_At yX11_emptyJars cX11_emptyJars 3 (some .int) 1 0 0 _ 4 [(2, 0), (0, x), (0, i)] [] (q_sh0, q_rb b, m)) (fun i x m => ∃ v : Nat, i = v ∧ v ≤ n ∧ m = mem ∧ x = g_s (fun j => if mem 8 j = 0 then (1 : Int) else 0) v) n ?_ ?_ 0 0 mem ⟨0, rfl, by omega, rfl, rfl⟩
  · rintro i x m hi ⟨v, rfl, hv, rfl, rfl⟩
    have : v = n := by omega
    subst this
    exact bkX11_emptyJars_4 (fun _ => ⟨rfl, rfl⟩) (fun z => absurd z (by omega)) (fun z => absurd z (by omega)) (fun z => absurd z (by omega)) (fun z => absurd z (by omega)) (fun z => absurd z (by omega))
  · rintro i x m hi ⟨v, rfl, hv, rfl, rfl⟩ ih
    have b1 := hb v
    refine bkX11_emptyJars_4 (fun z => absurd z (by omega)) (fun _ => by omega) (fun _ _ => ⟨q_in_of (by omega) (by omega), q_in_of (by omega) (by omega)⟩) (fun _ z => ?_) (fun _ _ => ⟨q_in_of (by omega) (by omega), q_in_of (by omega) (by omega)⟩) (fun _ z => ?_)
    · exact ih _ _ ⟨v + 1, by omega, by omega, rfl, by simp only [g_s]; rw [if_neg z]⟩
    · exact ih _ _ ⟨v + 1, by omega, by omega, rfl, by simp only [g_s]; rw [if_pos z]⟩
theorem sp_levels {b : Int} {mem : qm} (n : Nat) (hn : mem 1 3 = n) (h9 : n ≤ 9) (hl : ∀ j : Int, 0 ≤ j → j < n → 0 ≤ mem 8 j ∧ mem 8 j ≤ 60) : q_Ev yX11_levelsInAll cX11_levelsInAll 3 (some .int) 1 0 0 [(2, 0)] (q_sh0, q_rb b, mem) (qK (q_rb b) (fun r m => m = mem ∧ r = g_s (mem 8) n)) := by
  refine q_enter (by decide +kernel) (by simp) (Nat.le_of_ble_eq_true rfl) ?_
  refine bkX11_levelsInAll_0 ?_
  have hb : ∀ v : Nat, v ≤ n → 0 ≤ g_s (mem 8) v ∧ g_s (mem 8) v ≤ 60 * v := fun v hv => g_s_in (by decide) (fun j a b => hl j a (by omega))
  refine q_for1 (A := fun i (x : Int) m => q_At yX11_levelsInAll cX11_levelsInAll 3 (some .int) 1 0 0 _ 4 [(2, 0), (0, x), (0, i)] [] (q_sh0, q_rb b, m)) (fun i x m => ∃ v : Nat, i = v ∧ v ≤ n ∧ m = mem ∧ x = g_s (mem 8) v) n ?_ ?_ 0 0 mem ⟨0, rfl, by omega, rfl, rfl⟩
  · rintro i x m hi ⟨v, rfl, hv, rfl, rfl⟩
    have : v = n := by omega
    subst this
    exact bkX11_levelsInAll_4 (fun _ => ⟨rfl, rfl⟩) (fun z => absurd z (by omega)) (fun z => absurd z (by omega))
  · rintro i x m hi ⟨v, rfl, hv, rfl, rfl⟩ ih
    have b1 := hb v hv
    have b2 := hl v (by omega) (by omega)
    exact bkX11_levelsInAll_4 (fun z => absurd z (by omega)) (fun _ => ⟨by omega, q_in_of (by omega) (by omega), q_in_of (by omega) (by omega)⟩) (fun _ => ih _ _ ⟨v + 1, by omega, by omega, rfl, by simp only [g_s]⟩)
theorem sp_sumOf {b : Int} {mem : qm} (n : Nat) (hn : mem 188 0 = n) (h9 : n ≤ 9) (hl : ∀ j : Int, 0 ≤ j → j < n → 0 ≤ mem 190 j ∧ mem 190 j ≤ 60) : q_Ev yX12_sumOf cX12_sumOf 4 (some .int) 1 0 0 [(2, 188), (2, 190)] (q_sh0, q_rb b, mem) (qK (q_rb b) (fun r m => m = mem ∧ r = g_s (mem 190) n)) := by
  refine q_enter (by decide +kernel) (by simp) (Nat.le_of_ble_eq_true rfl) ?_
  refine bkX12_sumOf_0 qs190 ?_
  have hb : ∀ v : Nat, v ≤ n → 0 ≤ g_s (mem 190) v ∧ g_s (mem 190) v ≤ 60 * v := fun v hv => g_s_in (by decide) (fun j a b => hl j a (by omega))
  refine q_for1 (A := fun i (x : Int) m => q_At yX12_sumOf cX12_sumOf 4 (some .int) 1 0 0 _ 4 [(2, 188), (2, 190), (0, x), (0, i)] [] (q_sh0, q_rb b, m)) (fun i x m => ∃ v : Nat, i = v ∧ v ≤ n ∧ m = mem ∧ x = g_s (mem 190) v) n ?_ ?_ 0 0 mem ⟨0, rfl, by omega, rfl, rfl⟩
  · rintro i x m hi ⟨v, rfl, hv, rfl, rfl⟩
    have : v = n := by omega
    subst this
    exact bkX12_sumOf_4 qs190 (fun _ => ⟨rfl, rfl⟩) (fun z => absurd z (by omega)) (fun z => absurd z (by omega))
  · rintro i x m hi ⟨v, rfl, hv, rfl, rfl⟩ ih
    have b1 := hb v hv
    have b2 := hl v (by omega) (by omega)
    exact bkX12_sumOf_4 qs190 (fun z => absurd z (by omega)) (fun _ => ⟨by omega, q_in_of (by omega) (by omega), q_in_of (by omega) (by omega)⟩) (fun _ => ih _ _ ⟨v + 1, by omega, by omega, rfl, by simp only [g_s]⟩)
theorem sp_allDebts {b : Int} {mem : qm} (hl : ∀ j : Int, 0 ≤ j → j < 36 → 0 ≤ mem 197 j ∧ mem 197 j ≤ 999) : q_Ev yX12_allDebts cX12_allDebts 6 (some .int) 1 0 0 [(2, 188)] (q_sh0, q_rb b, mem) (qK (q_rb b) (fun r m => m = mem ∧ r = g_s (mem 197) 36)) := by
  refine q_enter (by decide +kernel) (by simp) (Nat.le_of_ble_eq_true rfl) ?_
  refine bkX12_allDebts_0 ?_
  have hb : ∀ v : Nat, v ≤ 36 → 0 ≤ g_s (mem 197) v ∧ g_s (mem 197) v ≤ 999 * v := fun v hv => g_s_in (by decide) (fun j a b => hl j a (by omega))
  refine q_for1 (A := fun i (x : Int) m => q_At yX12_allDebts cX12_allDebts 6 (some .int) 1 0 0 _ 13 [(2, 188), (0, x), (2, 197), (0, 36), (0, i), (4, 0)] [] (q_sh0, q_rb b, m)) (fun i x m => ∃ v : Nat, i = v ∧ v ≤ 36 ∧ m = mem ∧ x = g_s (mem 197) v) 36 ?_ ?_ 0 0 mem ⟨0, rfl, by omega, rfl, rfl⟩
  · rintro i x m hi ⟨v, rfl, hv, rfl, rfl⟩
    have : v = 36 := by omega
    subst this
    exact bkX12_allDebts_13 (fun _ => ⟨rfl, rfl⟩) (fun z => absurd z (by omega)) (fun z => absurd z (by omega))
  · rintro i x m hi ⟨v, rfl, hv, rfl, rfl⟩ ih
    have b1 := hb v hv
    have b2 := hl v (by omega) (by omega)
    exact bkX12_allDebts_13 (fun z => absurd z (by omega)) (fun _ => ⟨by omega, q_in_of (by omega) (by omega), q_in_of (by omega) (by omega)⟩) (fun _ => ih _ _ ⟨v + 1, by omega, by omega, rfl, by simp only [g_s]⟩)
theorem g_s7 (f : Int → Int) : g_s f 7 = f 0 + f 1 + f 2 + f 3 + f 4 + f 5 + f 6 := by
  show 0 + f ((0 : Nat) : Int) + f ((1 : Nat) : Int) + f ((2 : Nat) : Int) + f ((3 : Nat) : Int) + f ((4 : Nat) : Int) + f ((5 : Nat) : Int) + f ((6 : Nat) : Int) = _
  rw [Int.zero_add]; rfl
theorem sp_lostW {b s B : Int} {m : qm} {n : Nat} {A : a_W} {c : Int → Int} (hs : q_st s) (h : c_W m s n A) (v : a_V B n c A) (hB : B ≤ 1200000) : q_Ev yX7_lost cX7_lost 3 (some .int) 1 0 0 [(2, s)] (q_sh0, q_rb b, m) (qK (q_rb b) (fun r m' => m' = m ∧ r = A.1.2.2)) := by
  obtain ⟨a, b, d, e, f, g⟩ := h
  obtain ⟨v1, v2, v3, v4, v5, v6, v7, v8, v9⟩ := v
  have e0 := e 0 (by decide) (by decide)
  have e1 := e 1 (by decide) (by decide)
  have e2 := e 2 (by decide) (by decide)
  have e3 := e 3 (by decide) (by decide)
  have e4 := e 4 (by decide) (by decide)
  have e5 := e 5 (by decide) (by decide)
  have e6 := e 6 (by decide) (by decide)
  refine (sp_lost hs (fun q q0 q1 => ?_)).post ?_
  · have : q = 0 ∨ q = 1 ∨ q = 2 ∨ q = 3 ∨ q = 4 ∨ q = 5 ∨ q = 6 := by omega
    rcases this with h | h | h | h | h | h | h <;> subst h <;> omega
  · rintro r m' ⟨h1, h2⟩
    exact ⟨h1, by rw [h2, g_s7]; exact f⟩
