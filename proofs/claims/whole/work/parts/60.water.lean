/-! ===== a jar's drops, the oldest first ===== -/
theorem q_toI {x : Int} (h1 : -2147483648 ≤ x) (h2 : x < 2147483648) : (Int32.ofInt x).toInt = x := Int32.toInt_ofInt_of_le (by simpa using h1) (by simpa using h2)
theorem q_odiv_nn {a b : Int} (h0 : 0 ≤ a) (h1 : a < 2147483648) (h2 : 0 < b) (h3 : b < 2147483648) : q_oidiv a b = a / b := by
  unfold q_oidiv
  rw [Int32.toInt_div, q_toI (by omega) h1, q_toI (by omega) h3, Int.tdiv_eq_ediv_of_nonneg h0]
  have : a / b ≤ a := Int.ediv_le_self _ h0
  have : 0 ≤ a / b := Int.ediv_nonneg h0 (by omega)
  rw [Int.bmod_eq_of_le (by omega) (by omega)]
theorem q_orem_nn {a b : Int} (h0 : 0 ≤ a) (h1 : a < 2147483648) (h2 : 0 < b) (h3 : b < 2147483648) : q_oirem a b = a % b := by
  have e := q_odiv_nn h0 h1 h2 h3
  unfold q_oidiv at e
  unfold q_oirem
  rw [Int32.toInt_sub, Int32.toInt_mul, e, q_toI (by omega) h1, q_toI (by omega) h3]
  have h4 : 0 ≤ a / b := Int.ediv_nonneg h0 (by omega)
  have h5 := Int.emod_add_mul_ediv a b
  have h6 := Int.emod_nonneg a (show b ≠ 0 by omega)
  have h7 := Int.emod_lt_of_pos a h2
  have h8 : 0 ≤ a / b * b := Int.mul_nonneg h4 (by omega)
  have h9 : b * (a / b) = a / b * b := Int.mul_comm _ _
  rw [Int.bmod_eq_of_le (n := a / b * b) (by omega) (by omega), Int.bmod_eq_of_le (by omega) (by omega)]
  omega
/-- jar j of the class's state s has len drops, the k-th oldest f k -/
def w_j (m : qm) (s j len : Int) (f : Int → Int) : Prop := m (s + 3) j = len ∧ 0 ≤ m (s + 2) j ∧ m (s + 2) j < 60 ∧ ∀ k, 0 ≤ k → k < len → m (s + 1) (60 * j + (m (s + 2) j + k) % 60) = f k
theorem w_j.fr {m m' : qm} {s j len : Int} {f : Int → Int} (h : w_j m s j len f) (h1 : m' (s + 3) j = m (s + 3) j) (h2 : m' (s + 2) j = m (s + 2) j) (h3 : ∀ i, 60 * j ≤ i → i < 60 * j + 60 → m' (s + 1) i = m (s + 1) i) : w_j m' s j len f := by
  obtain ⟨a, b, c, d⟩ := h
  refine ⟨h1.trans a, by omega, by omega, fun k k0 k1 => ?_⟩
  rw [h2, h3 _ (by omega) (by omega)]
  exact d k k0 k1
theorem w_j.en {m : qm} {s j len : Int} {f g : Int → Int} (h : w_j m s j len f) (e : ∀ k, 0 ≤ k → k < len → f k = g k) : w_j m s j len g := ⟨h.1, h.2.1, h.2.2.1, fun k k0 k1 => (h.2.2.2 k k0 k1).trans (e k k0 k1)⟩
/-- what a change of jar j's drops may write -/
abbrev w_x (s j c i : Int) : Prop := (c = s + 1 ∧ 60 * j ≤ i ∧ i < 60 * j + 60) ∨ ((c = s + 2 ∨ c = s + 3) ∧ i = j)
theorem w_j.fx {m m' : qm} {s j j' len : Int} {f : Int → Int} (h : w_j m s j' len f) (hf : q_fx (w_x s j) m m') (hne : j' ≠ j) : w_j m' s j' len f :=
  h.fr (hf _ _ (by simp only [w_x]; omega)) (hf _ _ (by simp only [w_x]; omega)) (fun i a b => hf _ _ (by simp only [w_x]; omega))
theorem w_j.fo {m m' : qm} {s j len : Int} {f : Int → Int} {X : Int → Int → Prop} (h : w_j m s j len f) (hf : q_fx X m m') (hX : ∀ c i, s < c → c ≤ s + 3 → ¬ X c i) : w_j m' s j len f :=
  h.fr (hf _ _ (hX _ _ (by omega) (by omega))) (hf _ _ (hX _ _ (by omega) (by omega))) (fun i a b => hf _ _ (hX _ _ (by omega) (by omega)))
theorem sp_placeOf {b s j k : Int} {mem : qm} (hs : q_st s) (hj : 0 ≤ j ∧ j < 9) (ho : 0 ≤ mem (s + 2) j ∧ mem (s + 2) j < 60) (hk : 0 ≤ k ∧ k ≤ 60) : q_Ev yX7_placeOf cX7_placeOf 3 (some .int) 1 0 0 [(2, s), (0, j), (0, k)] (q_sh0, q_rb b, mem) (qK (q_rb b) (fun r m => m = mem ∧ r = 60 * j + (mem (s + 2) j + k) % 60)) := by
  refine q_enter (by decide +kernel) (by simp) (Nat.le_of_ble_eq_true rfl) ?_
  have e : q_oirem (mem (s + 2) j + k) 60 = (mem (s + 2) j + k) % 60 := q_orem_nn (by omega) (by omega) (by decide) (by decide)
  refine bkX7_placeOf_0 hs ⟨q_in_of (by omega) (by omega), hj, q_in_of (by omega) (by omega), ?_⟩ ⟨rfl, ?_⟩
  · rw [e]; exact q_in_of (by omega) (by omega)
  · rw [e]; omega
theorem sp_originAt {b s j k : Int} {mem : qm} (hs : q_st s) (hj : 0 ≤ j ∧ j < 9) (ho : 0 ≤ mem (s + 2) j ∧ mem (s + 2) j < 60) (hk : 0 ≤ k ∧ k ≤ 60) : q_Ev yX7_originAt cX7_originAt 3 (some .int) 2 0 0 [(2, s), (0, j), (0, k)] (q_sh0, q_rb b, mem) (qK (q_rb b) (fun r m => m = mem ∧ r = mem (s + 1) (60 * j + (mem (s + 2) j + k) % 60))) := by
  refine q_enter (by decide +kernel) (by simp) (Nat.le_of_ble_eq_true rfl) ?_
  refine bkX7_originAt_0 hs (sp_placeOf hs hj ho hk) ?_ ?_
  · rintro r m ⟨rfl, rfl⟩ _; omega
  · rintro r m ⟨rfl, rfl⟩ _; exact ⟨rfl, rfl⟩
theorem sp_putBehind {b s j len v : Int} {f : Int → Int} {mem : qm} (hs : q_st s) (hj : 0 ≤ j ∧ j < 9) (h : w_j mem s j len f) (hl : 0 ≤ len ∧ len < 60) : q_Ev yX7_putBehind cX7_putBehind 3 none 2 0 0 [(2, s), (0, j), (0, v)] (q_sh0, q_rb b, mem) (qK (q_rb b) (fun _ m => w_j m s j (len + 1) (fun k => if k = len then v else f k) ∧ q_fx (w_x s j) mem m)) := by
  refine q_enter (by decide +kernel) (by simp) (Nat.le_of_ble_eq_true rfl) ?_
  obtain ⟨h1, h2, h3, h4⟩ := h
  refine bkX7_putBehind_0 hs hj (sp_placeOf hs hj ⟨h2, h3⟩ (by omega)) ?_ ?_
  · rintro r m ⟨rfl, rfl⟩ _; exact ⟨by omega, q_in_of (by omega) (by omega)⟩
  · rintro r m ⟨rfl, rfl⟩ _
    have e2 : ∀ x y, q_up (q_up m (s + 1) x v) (s + 3) j y (s + 2) j = m (s + 2) j := fun x y => by rw [q_up_c (by omega), q_up_c (by omega)]
    refine ⟨⟨by rw [q_up_s]; omega, by rw [e2]; exact h2, by rw [e2]; exact h3, fun k k0 k1 => ?_⟩, (q_fx.rf.up (Or.inl ⟨rfl, by omega, by omega⟩)).up (Or.inr ⟨Or.inr rfl, rfl⟩)⟩
    rw [e2, q_up_c (by omega)]
    by_cases hk : k = len
    · simp only [if_pos hk]
      rw [hk, ← h1, q_up_s]
    · simp only [if_neg hk]
      rw [q_up_i (by omega)]
      exact h4 k k0 (by omega)
theorem sp_takeOldest {b s j len : Int} {f : Int → Int} {mem : qm} (hs : q_st s) (hj : 0 ≤ j ∧ j < 9) (h : w_j mem s j len f) (hl : 0 < len ∧ len ≤ 60) : q_Ev yX7_takeOldest cX7_takeOldest 3 (some .int) 2 0 0 [(2, s), (0, j)] (q_sh0, q_rb b, mem) (qK (q_rb b) (fun r m => r = f 0 ∧ w_j m s j (len - 1) (fun k => f (k + 1)) ∧ q_fx (w_x s j) mem m)) := by
  refine q_enter (by decide +kernel) (by simp) (Nat.le_of_ble_eq_true rfl) ?_
  obtain ⟨h1, h2, h3, h4⟩ := h
  refine bkX7_takeOldest_0 hs (sp_placeOf hs hj ⟨h2, h3⟩ (by omega)) ?_ ?_
  · rintro r m ⟨rfl, rfl⟩ _; exact ⟨by omega, hj, q_in_of (by omega) (by omega), q_in_of (by omega) (by omega)⟩
  · rintro r m ⟨rfl, rfl⟩ _
    have e : q_oirem (m (s + 2) j + 1) 60 = (m (s + 2) j + 1) % 60 := q_orem_nn (by omega) (by omega) (by decide) (by decide)
    rw [e]
    have e2 : ∀ y, q_up (q_up m (s + 2) j ((m (s + 2) j + 1) % 60)) (s + 3) j y (s + 2) j = (m (s + 2) j + 1) % 60 := fun y => by rw [q_up_c (by omega), q_up_s]
    refine ⟨h4 0 (by omega) (by omega), ⟨by rw [q_up_s]; omega, by rw [e2]; omega, by rw [e2]; omega, fun k k0 k1 => ?_⟩, (q_fx.rf.up (Or.inr ⟨Or.inl rfl, rfl⟩)).up (Or.inr ⟨Or.inr rfl, rfl⟩)⟩
    show _ = f (k + 1)
    rw [e2, q_up_c (by omega), q_up_c (by omega), ← h4 (k + 1) (by omega) (by omega)]
    congr 1
    omega
/-- how many of the first k are v -/
def g_n (f : Int → Int) (v : Int) : Nat → Int
  | 0 => 0
  | k + 1 => g_n f v k + if f k = v then 1 else 0
theorem g_n_in {f : Int → Int} {v : Int} : ∀ k : Nat, 0 ≤ g_n f v k ∧ g_n f v k ≤ k
  | 0 => by simp [g_n]
  | k + 1 => by have := g_n_in (f := f) (v := v) k; simp only [g_n]; split <;> omega
theorem g_n_en {f g : Int → Int} {v : Int} : ∀ {k : Nat}, (∀ i : Int, 0 ≤ i → i < k → f i = g i) → g_n f v k = g_n g v k
  | 0, _ => rfl
  | k + 1, h => by
    simp only [g_n]
    rw [g_n_en (fun i a b => h i a (by omega)), h k (by omega) (by omega)]
theorem g_n_mo {f : Int → Int} {v : Int} {a : Nat} : ∀ {b : Nat}, a ≤ b → g_n f v a ≤ g_n f v b
  | 0, h => by have : a = 0 := by omega
               subst this; omega
  | b + 1, h => by
    by_cases e : a = b + 1
    · subst e; omega
    · have := g_n_mo (f := f) (v := v) (a := a) (b := b) (by omega)
      simp only [g_n]; split <;> omega
theorem sp_dropsFrom {b s j len v : Int} {f : Int → Int} {mem : qm} (hs : q_st s) (hj : 0 ≤ j ∧ j < 9) (h : w_j mem s j len f) (hl : len ≤ 60) (w : Nat) (hw : (w : Int) ≤ len) : q_Ev yX7_dropsFrom cX7_dropsFrom 6 (some .int) 3 0 0 [(2, s), (0, v), (0, j), (0, (w : Int))] (q_sh0, q_rb b, mem) (qK (q_rb b) (fun r m => m = mem ∧ r = g_n f v w)) := by
  refine q_enter (by decide +kernel) (by simp) (Nat.le_of_ble_eq_true rfl) ?_
  refine bkX7_dropsFrom_0 hs ?_
  obtain ⟨h1, h2, h3, h4⟩ := h
  refine q_for1 (A := fun i (x : Int) m => q_At yX7_dropsFrom cX7_dropsFrom 6 (some .int) 3 0 0 _ 6 [(2, s), (0, v), (0, j), (0, (w : Int)), (0, x), (0, i)] [] (q_sh0, q_rb b, m)) (fun i x m => ∃ u : Nat, i = u ∧ u ≤ w ∧ m = mem ∧ x = g_n f v u) w ?_ ?_ 0 0 mem ⟨0, rfl, by omega, rfl, rfl⟩
  · rintro i x m hi ⟨u, rfl, hu, rfl, rfl⟩
    have : u = w := by omega
    subst this
    exact bkX7_dropsFrom_6 (P2 := fun _ _ => True) hs (fun _ => ⟨rfl, rfl⟩) (fun z => absurd z (by omega)) (fun z => absurd z (by omega)) (fun z => absurd z (by omega)) (fun z => absurd z (by omega)) (fun z => absurd z (by omega))
  · rintro i x m hi ⟨u, rfl, hu, rfl, rfl⟩ ih
    have b1 := g_n_in (f := f) (v := v) u
    have e := h4 u (by omega) (by omega)
    refine bkX7_dropsFrom_6 hs (fun z => absurd z (by omega)) (fun _ => sp_originAt hs hj ⟨h2, h3⟩ (by omega)) (fun _ _ _ _ _ _ => ⟨q_in_of (by omega) (by omega), q_in_of (by omega) (by omega)⟩) ?_ (fun _ _ _ _ _ _ => ⟨q_in_of (by omega) (by omega), q_in_of (by omega) (by omega)⟩) ?_
    · rintro _ r2 m2 ⟨rfl, rfl⟩ _ z
      refine ih _ _ ⟨u + 1, by omega, by omega, rfl, ?_⟩
      simp only [g_n]; rw [if_neg (by rw [← e]; exact z)]
    · rintro _ r2 m2 ⟨rfl, rfl⟩ _ z
      refine ih _ _ ⟨u + 1, by omega, by omega, rfl, ?_⟩
      simp only [g_n]; rw [if_pos (by rw [← e]; exact z)]
theorem sp_mark {b s j len v : Int} {f : Int → Int} {mem : qm} (hs : q_st s) (hj : 0 ≤ j ∧ j < 9) (h : w_j mem s j len f) (hl : 0 ≤ len ∧ len ≤ 60) : q_Ev yX7_mark cX7_mark 4 none 2 0 0 [(2, s), (0, j), (0, v)] (q_sh0, q_rb b, mem) (qK (q_rb b) (fun _ m => w_j m s j len (fun _ => v) ∧ q_fx (w_x s j) mem m)) := by
  refine q_enter (by decide +kernel) (by simp) (Nat.le_of_ble_eq_true rfl) ?_
  refine bkX7_mark_0 hs ?_
  refine q_for (A := fun i m => q_At yX7_mark cX7_mark 4 none 2 0 0 _ 2 [(2, s), (0, j), (0, v), (0, i)] [] (q_sh0, q_rb b, m)) (fun i m => 0 ≤ i ∧ i ≤ len ∧ w_j m s j len (fun k => if k < i then v else f k) ∧ q_fx (w_x s j) mem m) len ?_ ?_ 0 mem ⟨by omega, by omega, h.en (fun k k0 _ => by rw [if_neg (by omega)]), q_fx.rf⟩
  · rintro i m hi ⟨i0, i1, g, hf⟩
    have g1 := g.1
    exact bkX7_mark_2 (P2 := fun _ _ => True) hs hj (fun _ => ⟨g.en (fun k k0 k1 => by rw [if_pos (by omega)]), hf⟩) (fun z => absurd z (by omega)) (fun z => absurd z (by omega)) (fun z => absurd z (by omega))
  · rintro i m hi ⟨i0, i1, g, hf⟩ ih
    obtain ⟨g1, g2, g3, g4⟩ := g
    refine bkX7_mark_2 hs hj (fun z => absurd z (by omega)) (fun _ => sp_placeOf hs hj ⟨g2, g3⟩ (by omega)) ?_ ?_
    · rintro _ r2 m2 ⟨rfl, rfl⟩ _; exact ⟨by omega, q_in_of (by omega) (by omega)⟩
    · rintro _ r2 m2 ⟨rfl, rfl⟩ _
      have e2 : ∀ x, q_up m2 (s + 1) x v (s + 2) j = m2 (s + 2) j := fun x => q_up_c (by omega)
      refine ih _ ⟨by omega, by omega, ⟨by rw [q_up_c (by omega)]; exact g1, by rw [e2]; exact g2, by rw [e2]; exact g3, fun k k0 k1 => ?_⟩, hf.up (Or.inl ⟨rfl, by omega, by omega⟩)⟩
      rw [e2]
      show _ = if k < i + 1 then v else f k
      by_cases hk : k = i
      · subst hk; rw [q_up_s, if_pos (by omega)]
      · rw [q_up_i (by omega), g4 k k0 k1]
        show (if k < i then v else f k) = _
        by_cases h2 : k < i
        · rw [if_pos h2, if_pos (by omega)]
        · rw [if_neg h2, if_neg (by omega)]
theorem sp_lost {b s : Int} {mem : qm} (hs : q_st s) (hb : ∀ o, 0 ≤ o → o < 7 → 0 ≤ mem (s + 8) o ∧ mem (s + 8) o ≤ 100000000) : q_Ev yX7_lost cX7_lost 3 (some .int) 1 0 0 [(2, s)] (q_sh0, q_rb b, mem) (qK (q_rb b) (fun r m => m = mem ∧ r = g_s (mem (s + 8)) 7)) := by
  refine q_enter (by decide +kernel) (by simp) (Nat.le_of_ble_eq_true rfl) ?_
  refine bkX7_lost_0 hs ?_
  have hb : ∀ v : Nat, v ≤ 7 → 0 ≤ g_s (mem (s + 8)) v ∧ g_s (mem (s + 8)) v ≤ 100000000 * v := fun v hv => g_s_in (by decide) (fun j a b => hb j a (by omega))
  rename_i hb0
  refine q_for1 (A := fun i (x : Int) m => q_At yX7_lost cX7_lost 3 (some .int) 1 0 0 _ 4 [(2, s), (0, x), (0, i)] [] (q_sh0, q_rb b, m)) (fun i x m => ∃ v : Nat, i = v ∧ v ≤ 7 ∧ m = mem ∧ x = g_s (mem (s + 8)) v) 7 ?_ ?_ 0 0 mem ⟨0, rfl, by omega, rfl, rfl⟩
  · rintro i x m hi ⟨v, rfl, hv, rfl, rfl⟩
    have : v = 7 := by omega
    subst this
    exact bkX7_lost_4 hs (fun _ => ⟨rfl, rfl⟩) (fun z => absurd z (by omega)) (fun z => absurd z (by omega))
  · rintro i x m hi ⟨v, rfl, hv, rfl, rfl⟩ ih
    have b1 := hb v hv
    have b2 := hb (v + 1) (by omega)
    simp only [g_s] at b2
    refine bkX7_lost_4 hs (fun z => absurd z (by omega)) (fun _ => ⟨by omega, q_in_of (by omega) (by omega), q_in_of (by omega) (by omega)⟩) (fun _ => ?_)
    exact ih _ _ ⟨v + 1, by omega, by omega, rfl, by simp only [g_s]⟩
theorem sp_owedBy {b s w : Int} {mem : qm} (hs : q_st s) (hw : 0 ≤ w ∧ w < 6) (hb : ∀ d, 0 ≤ d → d < 36 → 0 ≤ mem (s + 7) d ∧ mem (s + 7) d ≤ 999) : q_Ev yX7_owedBy cX7_owedBy 4 (some .int) 1 0 0 [(2, s), (0, w)] (q_sh0, q_rb b, mem) (qK (q_rb b) (fun r m => m = mem ∧ r = g_s (fun k => mem (s + 7) (6 * w + k)) 6)) := by
  refine q_enter (by decide +kernel) (by simp) (Nat.le_of_ble_eq_true rfl) ?_
  refine bkX7_owedBy_0 hs ?_
  have hc : ∀ v : Nat, v ≤ 6 → 0 ≤ g_s (fun k => mem (s + 7) (6 * w + k)) v ∧ g_s (fun k => mem (s + 7) (6 * w + k)) v ≤ 999 * v := fun v hv => g_s_in (by decide) (fun j a b => hb _ (by omega) (by omega))
  refine q_for1 (A := fun i (x : Int) m => q_At yX7_owedBy cX7_owedBy 4 (some .int) 1 0 0 _ 4 [(2, s), (0, w), (0, x), (0, i)] [] (q_sh0, q_rb b, m)) (fun i x m => ∃ v : Nat, i = v ∧ v ≤ 6 ∧ m = mem ∧ x = g_s (fun k => mem (s + 7) (6 * w + k)) v) 6 ?_ ?_ 0 0 mem ⟨0, rfl, by omega, rfl, rfl⟩
  · rintro i x m hi ⟨v, rfl, hv, rfl, rfl⟩
    have : v = 6 := by omega
    subst this
    exact bkX7_owedBy_4 hs (fun _ => ⟨rfl, rfl⟩) (fun z => absurd z (by omega)) (fun z => absurd z (by omega))
  · rintro i x m hi ⟨v, rfl, hv, rfl, rfl⟩ ih
    have b1 := hc v hv
    have b2 := hc (v + 1) (by omega)
    simp only [g_s] at b2
    have e : w * 6 + (v : Int) = 6 * w + v := by omega
    refine bkX7_owedBy_4 hs (fun z => absurd z (by omega)) (fun _ => ?_) (fun _ => ?_)
    · rw [e]; exact ⟨q_in_of (by omega) (by omega), q_in_of (by omega) (by omega), by omega, q_in_of (by omega) (by omega), q_in_of (by omega) (by omega)⟩
    · rw [e]; exact ih _ _ ⟨v + 1, by omega, by omega, rfl, by simp only [g_s]⟩
/-- what all owe -/
def g_ow (f : Int → Int) : Int := g_s (fun o => g_s (fun k => f (6 * o + k)) 6) 6
theorem g_s_add (f : Int → Int) (a : Nat) : ∀ b : Nat, g_s f (a + b) = g_s f a + g_s (fun k => f (a + k)) b
  | 0 => by simp [g_s]
  | b + 1 => by
    show g_s f (a + b) + f ((a + b : Nat) : Int) = _
    rw [g_s_add f a b]
    simp only [g_s]
    rw [show ((a + b : Nat) : Int) = (a : Int) + b by omega]
    omega
theorem g_ow_eq' (f : Int → Int) : ∀ v : Nat, g_s (fun o => g_s (fun k => f (6 * o + k)) 6) v = g_s f (6 * v)
  | 0 => rfl
  | v + 1 => by
    rw [show 6 * (v + 1) = 6 * v + 6 by omega, g_s_add f (6 * v) 6, ← g_ow_eq' f v]
    show _ + _ = _ + _
    rw [show ((6 * v : Nat) : Int) = 6 * (v : Int) by omega]
theorem g_ow_eq (f : Int → Int) : g_ow f = g_s f 36 := g_ow_eq' f 6
theorem sp_owedByAll {b s : Int} {mem : qm} (hs : q_st s) (hb : ∀ d, 0 ≤ d → d < 36 → 0 ≤ mem (s + 7) d ∧ mem (s + 7) d ≤ 999) : q_Ev yX7_owedByAll cX7_owedByAll 3 (some .int) 2 0 0 [(2, s)] (q_sh0, q_rb b, mem) (qK (q_rb b) (fun r m => m = mem ∧ r = g_s (mem (s + 7)) 36)) := by
  rw [← g_ow_eq]
  unfold g_ow
  refine q_enter (by decide +kernel) (by simp) (Nat.le_of_ble_eq_true rfl) ?_
  refine bkX7_owedByAll_0 hs ?_
  have hc : ∀ v : Nat, v ≤ 6 → 0 ≤ g_s (fun o => g_s (fun k => mem (s + 7) (6 * o + k)) 6) v ∧ g_s (fun o => g_s (fun k => mem (s + 7) (6 * o + k)) 6) v ≤ 5994 * v := fun v hv => g_s_in (by decide) (fun j a b => by
    have := g_s_in (f := fun k => mem (s + 7) (6 * j + k)) (A := 999) (by decide) (n := 6) (fun i c d => hb _ (by omega) (by omega))
    omega)
  refine q_for1 (A := fun i (x : Int) m => q_At yX7_owedByAll cX7_owedByAll 3 (some .int) 2 0 0 _ 4 [(2, s), (0, x), (0, i)] [] (q_sh0, q_rb b, m)) (fun i x m => ∃ v : Nat, i = v ∧ v ≤ 6 ∧ m = mem ∧ x = g_s (fun o => g_s (fun k => mem (s + 7) (6 * o + k)) 6) v) 6 ?_ ?_ 0 0 mem ⟨0, rfl, by omega, rfl, rfl⟩
  · rintro i x m hi ⟨v, rfl, hv, rfl, rfl⟩
    have : v = 6 := by omega
    subst this
    exact bkX7_owedByAll_4 (P2 := fun _ _ => True) hs (fun _ => ⟨rfl, rfl⟩) (fun z => absurd z (by omega)) (fun z => absurd z (by omega)) (fun z => absurd z (by omega))
  · rintro i x m hi ⟨v, rfl, hv, rfl, rfl⟩ ih
    have b1 := hc v hv
    have b2 := hc (v + 1) (by omega)
    rw [show g_s (fun o => g_s (fun k => m (s + 7) (6 * o + k)) 6) (v + 1) = g_s (fun o => g_s (fun k => m (s + 7) (6 * o + k)) 6) v + g_s (fun k => m (s + 7) (6 * (v : Int) + k)) 6 from rfl] at b2
    refine bkX7_owedByAll_4 hs (fun z => absurd z (by omega)) (fun _ => sp_owedBy hs (by omega) hb) ?_ ?_
    · rintro _ r2 m2 ⟨rfl, rfl⟩ _
      exact ⟨q_in_of (by omega) (by omega), q_in_of (by omega) (by omega)⟩
    · rintro _ r2 m2 ⟨rfl, rfl⟩ _
      exact ih _ _ ⟨v + 1, by omega, by omega, rfl, rfl⟩
