/-! ===== above ===== -/
theorem q_or_in {a c : Int} : q_in32 (q_oior a c) := ⟨Int32.le_toInt _, Int32.toInt_lt _⟩
theorem q_or0 {a : Int} (h : q_in32 a) : q_oior a 0 = a := by
  unfold q_oior
  rw [show Int32.ofInt 0 = 0 from rfl, Int32.or_zero]
  exact Int32.toInt_ofInt_of_le h.1 h.2
theorem g_s_lt {f g : Int → Int} {n : Nat} (h : ∀ j : Int, 0 ≤ j → j < n → f j ≤ g j) (t : ∃ j : Int, 0 ≤ j ∧ j < n ∧ f j < g j) : g_s f n < g_s g n := by
  obtain ⟨j, a, b, c⟩ := t
  have p := g_s_pos (f := fun i => g i - f i) (n := n) (fun i a b => by have := h i a b; omega) ⟨j, a, b, by omega⟩
  have e : g_s g n = g_s (fun i => f i + (g i - f i)) n := g_s_en (fun i _ _ => by omega)
  rw [g_s_sub] at e
  omega
theorem g_s_1 : ∀ n : Nat, g_s (fun _ => 1) n = n
  | 0 => rfl
  | n + 1 => by simp only [g_s]; rw [g_s_1 n]; omega
/-- how many jars stand lower -/
def a_rk (n : Nat) (ht : Int → Int) (j : Int) : Int := g_s (fun i => if ht i < ht j then 1 else 0) n
theorem a_rk_in {n : Nat} {ht : Int → Int} {j : Int} (h0 : 0 ≤ j) (h1 : j < n) : 0 ≤ a_rk n ht j ∧ a_rk n ht j < n := by
  refine ⟨g_s_nn (fun i _ _ => by split <;> omega), ?_⟩
  have := g_s_lt (f := fun i => if ht i < ht j then (1 : Int) else 0) (g := fun _ => 1) (n := n) (fun i _ _ => by split <;> omega) ⟨j, h0, h1, by rw [if_neg (by omega)]; decide⟩
  rw [g_s_1] at this
  exact this
theorem a_rk_lt {n : Nat} {ht : Int → Int} {i j : Int} (h0 : 0 ≤ i) (h1 : i < n) (h : ht i < ht j) : a_rk n ht i < a_rk n ht j := g_s_lt (fun q _ _ => by split <;> split <;> omega) ⟨i, h0, h1, by rw [if_neg (by omega), if_pos h]; decide⟩
def a_ab (u : Int → Int) (j : Int) : Nat → Int → Bool
  | 0, s => decide (s = j)
  | f + 1, s => if s = -1 ∨ s = j then decide (s = j) else a_ab u j f (u s)
def a_bt (p : Int → Bool) : Nat → Int
  | 0 => 0
  | k + 1 => if p k = true then q_oior (a_bt p k) (q_oishl 1 k) else a_bt p k
theorem a_bt_in {p : Int → Bool} : ∀ k : Nat, q_in32 (a_bt p k)
  | 0 => (q_in_of (by decide) (by decide) : q_in32 0)
  | k + 1 => by simp only [a_bt]; split; exact q_or_in; exact a_bt_in k
theorem op_above {LW : qm → Prop} (hL : i_Lf LW) {k : Nat} {b : Int} {m : qm} (I : i_I LW k m) (j : Int) :
    q_Ev yX11_above cX11_above 2 (some .int) 2 0 0 [(2, 0), (0, j)] (q_sh0, q_rb b, m) (qK (q_rb b) (fun r m1 => q_Ev yX12_above cX12_above 5 (some .int) 3 0 0 [(2, 188), (0, j)] (q_sh0, q_rb b, m1) (i_O LW (k + 1) r))) := by
  obtain ⟨n, en, T1, T3, W1, W3, K⟩ := i_knowT I
  have h9 := T3.1
  have e0 := T1.1
  generalize hA : a_of m = A at W1 W3 K
  generalize hT : a_Tof m = T at T1 T3 W3 K
  by_cases ok : 0 ≤ j ∧ j < n
  · generalize hp : (fun s => a_ab T.2.2.2.2 j 9 s) = p
    have hp' : ∀ s, a_ab T.2.2.2.2 j 9 s = p s := fun s => by rw [← hp]
    refine i_joinT hL I en hA (R := a_bt p n) (o := none) (fun l z => by cases z) ?_ ?_
    · refine q_enter (by decide +kernel) (by simp) (Nat.le_of_ble_eq_true rfl) ?_
      refine bkX11_above_0 (P2 := fun r m2 => m2 = m ∧ r = a_bt p n) (fun _ => ?_) ?_ (fun z => absurd (by omega) z)
      · refine q_enter (by decide +kernel) (by simp) (Nat.le_of_ble_eq_true rfl) ?_
        refine bkX11_bitsAbove_0 ?_
        refine q_for1 (A := fun i (x : Int) m' => q_At yX11_bitsAbove cX11_bitsAbove 6 (some .int) 1 0 0 _ 4 [(2, 0), (0, j), (0, x), (0, i), (4, 0), (4, 0)] [] (q_sh0, q_rb b, m')) (fun i x m' => ∃ y : Nat, i = y ∧ y ≤ n ∧ m' = m ∧ x = a_bt p y) n ?_ ?_ 0 0 m ⟨0, rfl, by omega, rfl, rfl⟩
        · rintro i x m' hi ⟨y, rfl, hy, rfl, rfl⟩
          have : y = n := by omega
          subst this
          exact bkX11_bitsAbove_4 (fun _ => ⟨rfl, rfl⟩) (fun z => absurd z (by omega))
        · rintro i x m' hi ⟨y, rfl, hy, rfl, rfl⟩ ih
          refine bkX11_bitsAbove_4 (fun z => absurd z (by omega)) (fun _ => ?_)
          have hin : q_in32 ((y : Int) + 1) := q_in_of (by omega) (by omega)
          have no : p y = false → q_At yX11_bitsAbove cX11_bitsAbove 6 (some .int) 1 0 0 (qK (q_rb b) (fun r m2 => m2 = m' ∧ r = a_bt p n)) 4 [(2, 0), (0, j), (0, a_bt p y), (0, (y : Int) + 1), (4, 0), (4, 0)] [] (q_sh0, q_rb b, m') := fun h => ih _ _ ⟨y + 1, by omega, by omega, rfl, by simp only [a_bt]; rw [h]; simp⟩
          have ys : p y = true → q_At yX11_bitsAbove cX11_bitsAbove 6 (some .int) 1 0 0 (qK (q_rb b) (fun r m2 => m2 = m' ∧ r = a_bt p n)) 4 [(2, 0), (0, j), (0, q_oior (a_bt p y) (q_oishl 1 y)), (0, (y : Int) + 1), (4, 0), (4, 0)] [] (q_sh0, q_rb b, m') := fun h => ih _ _ ⟨y + 1, by omega, by omega, rfl, by simp only [a_bt]; rw [h]; simp⟩
          have go : ∀ (f : Nat) (s : Int), f ≤ 9 → (s = -1 ∨ (0 ≤ s ∧ s < n)) → a_ab T.2.2.2.2 j f s = p y → q_At yX11_bitsAbove cX11_bitsAbove 6 (some .int) 1 0 0 (qK (q_rb b) (fun r m2 => m2 = m' ∧ r = a_bt p n)) 21 [(2, 0), (0, j), (0, a_bt p y), (0, (y : Int)), (0, s), (0, 9 - (f : Int))] [] (q_sh0, q_rb b, m') := by
            intro f
            induction f with
            | zero =>
              intro s _ hs he
              have he : decide (s = j) = p y := he
              refine bkX11_bitsAbove_21 (fun _ _ => hin) (fun _ z => no (by rw [← he]; exact decide_eq_false z)) (fun _ _ => hin) (fun _ z => ys (by rw [← he]; exact decide_eq_true z)) (fun z => absurd z (by omega)) (fun z => absurd z (by omega)) (fun z => absurd z (by omega)) (fun z => absurd z (by omega)) (fun z => absurd z (by omega)) (fun z => absurd z (by omega)) (fun z => absurd z (by omega)) (fun z => absurd z (by omega)) (fun z => absurd z (by omega)) (fun z => absurd z (by omega))
            | succ f ihf =>
              intro s hf hs he
              simp only [a_ab] at he
              refine bkX11_bitsAbove_21 (fun z => absurd z (by omega)) (fun z => absurd z (by omega)) (fun z => absurd z (by omega)) (fun z => absurd z (by omega)) (fun _ _ _ => hin) (fun _ z1 z => no (by rw [if_pos (Or.inl z1)] at he; rw [← he]; exact decide_eq_false z)) (fun _ _ _ => hin) (fun _ z1 z => absurd (z ▸ z1) (by omega)) (fun _ _ z1 z2 => absurd z1 z2) (fun _ _ z1 z2 => absurd z1 z2) (fun _ _ _ _ => hin) (fun _ _ z1 z => ys (by rw [if_pos (Or.inr z1)] at he; rw [← he]; exact decide_eq_true z)) (fun _ z1 z2 => ⟨by omega, q_in_of (by omega) (by omega)⟩) (fun _ z1 z2 => ?_)
              have hs2 : 0 ≤ s ∧ s < n := by omega
              rw [if_neg (by omega)] at he
              have e11 : m' 11 s = T.2.2.2.2 s := T1.2.2.2.2.2 s hs2.1 hs2.2
              have ub := (T3.2 s hs2.1 hs2.2).2.2.2.2.2.2.2.2
              have := ihf (T.2.2.2.2 s) (by omega) (by omega) he
              rw [e11, show 9 - (((f + 1 : Nat)) : Int) + 1 = 9 - (f : Int) by omega]
              exact this
          have := go 9 y (by omega) (Or.inr ⟨by omega, by omega⟩) (hp' y)
          exact this
      · rintro _ r2 m2 ⟨rfl, rfl⟩ _
        exact ⟨rfl, q_fx.rf, rfl, fun _ => rfl⟩
    · intro m1 f1
      obtain ⟨T2, W2⟩ := K m1 f1
      have e1 := T2.1
      have K1 := K m1 f1
      have g0 : q_fx (fun c i => c = 188 ∧ i = 17) m1 (q_up m1 188 17 0) := q_fx.rf.up ⟨rfl, rfl⟩
      have T2' := T2.fr g0 (by omega)
      have rn := r_no (m := m) K1
      refine q_enter (by decide +kernel) (by simp) (Nat.le_of_ble_eq_true rfl) ?_
      refine bkX12_above_0 (q_in_of (by omega) (by omega)) (fun _ => ?_) (fun z => absurd (by omega) z)
      generalize hm0 : q_up m1 188 17 0 = m0 at T2' rn
      have e2 := T2'.1
      refine q_for1 (A := fun i (x : Int) m' => q_At yX12_above cX12_above 5 (some .int) 3 0 0 _ 19 [(2, 188), (0, j), (0, x), (0, i), (4, 0)] [] (q_sh0, q_rb b, m')) (fun i x m' => ∃ y : Nat, i = y ∧ y ≤ n ∧ m' = m0 ∧ x = a_bt p y) n ?_ ?_ 0 0 m0 ⟨0, rfl, by omega, rfl, rfl⟩
      · rintro i x m' hi ⟨y, rfl, hy, rfl, rfl⟩
        have : y = n := by omega
        subst this
        exact bkX12_above_19 (fun _ => ⟨rfl, rn⟩) (fun z => absurd z (by omega))
      · rintro i x m' hi ⟨y, rfl, hy, rfl, rfl⟩ ih
        refine bkX12_above_19 (fun z => absurd z (by omega)) (fun _ => ?_)
        have hin : q_in32 ((y : Int) + 1) := q_in_of (by omega) (by omega)
        have no : p y = false → q_At yX12_above cX12_above 5 (some .int) 3 0 0 (qK (q_rb b) (fun r m2 => r = a_bt p n ∧ q_fx x_tM m1 m2 ∧ r_W m2 n A ∧ i_rr m1 m2 none)) 19 [(2, 188), (0, j), (0, q_oior (a_bt p y) 0), (0, (y : Int) + 1), (4, 0)] [] (q_sh0, q_rb b, m') := fun h => ih _ _ ⟨y + 1, by omega, by omega, rfl, by rw [q_or0 (a_bt_in y)]; simp only [a_bt]; rw [h]; simp⟩
        have ys : p y = true → q_At yX12_above cX12_above 5 (some .int) 3 0 0 (qK (q_rb b) (fun r m2 => r = a_bt p n ∧ q_fx x_tM m1 m2 ∧ r_W m2 n A ∧ i_rr m1 m2 none)) 19 [(2, 188), (0, j), (0, q_oior (a_bt p y) (q_oishl 1 y)), (0, (y : Int) + 1), (4, 0)] [] (q_sh0, q_rb b, m') := fun h => ih _ _ ⟨y + 1, by omega, by omega, rfl, by simp only [a_bt]; rw [h]; simp⟩
        have go : ∀ (f : Nat) (s : Int), f ≤ 9 → (s = -1 ∨ (0 ≤ s ∧ s < n ∧ a_rk n T.2.2.1 s < f)) → a_ab T.2.2.2.2 j f s = p y → q_At yX12_above cX12_above 5 (some .int) 3 0 0 (qK (q_rb b) (fun r m2 => r = a_bt p n ∧ q_fx x_tM m1 m2 ∧ r_W m2 n A ∧ i_rr m1 m2 none)) 30 [(2, 188), (0, j), (0, a_bt p y), (0, (y : Int)), (0, s)] [] (q_sh0, q_rb b, m') := by
          intro f
          induction f with
          | zero =>
            intro s _ hs he
            have hs1 : s = -1 := by
              rcases hs with hs | hs
              · exact hs
              · have := (a_rk_in (ht := T.2.2.1) hs.1 hs.2.1).1
                omega
            have he : decide (s = j) = p y := he
            refine bkX12_above_30 (fun _ _ => hin) (fun _ z => no (by rw [← he]; exact decide_eq_false z)) (fun _ _ => hin) (fun z1 z => absurd (z ▸ z1) (by omega)) (fun z => absurd hs1 z) (fun z => absurd hs1 z) (fun z => absurd hs1 z) (fun z => absurd hs1 z) (fun z => absurd hs1 z) (fun z => absurd hs1 z)
          | succ f ihf =>
            intro s hf hs he
            simp only [a_ab] at he
            refine bkX12_above_30 (fun _ _ => hin) (fun z1 z => no (by rw [if_pos (Or.inl z1)] at he; rw [← he]; exact decide_eq_false z)) (fun _ _ => hin) (fun z1 z => absurd (z ▸ z1) (by omega)) (fun _ z1 z2 => absurd z1 z2) (fun _ z1 z2 => absurd z1 z2) (fun _ _ _ => hin) (fun _ z1 z => ys (by rw [if_pos (Or.inr z1)] at he; rw [← he]; exact decide_eq_true z)) (fun z1 z2 => by omega) (fun z1 z2 => ?_)
            have hs2 : 0 ≤ s ∧ s < n ∧ a_rk n T.2.2.1 s < (f + 1 : Nat) := hs.resolve_left z1
            rw [if_neg (by omega)] at he
            have e11 : m' 194 s = T.2.2.2.2 s := T2'.2.2.2.2.2 s hs2.1 hs2.2.1
            have ub := (T3.2 s hs2.1 hs2.2.1).2.2.2.2.2.2.2.2
            rw [e11]
            refine ihf (T.2.2.2.2 s) (by omega) ?_ he
            rcases ub with ub | ub
            · exact Or.inl ub
            · have := a_rk_lt (n := n) ub.1 ub.2.1 ub.2.2
              exact Or.inr ⟨ub.1, ub.2.1, by omega⟩
        have rk := a_rk_in (n := n) (ht := T.2.2.1) (j := (y : Int)) (by omega) (by omega)
        exact go 9 y (by omega) (Or.inr ⟨by omega, by omega, by omega⟩) (hp' y)
  · refine i_joinT hL I en hA (R := -1) (o := none) (fun l z => by cases z) ?_ ?_
    · refine q_enter (by decide +kernel) (by simp) (Nat.le_of_ble_eq_true rfl) ?_
      exact bkX11_above_0 (P2 := fun _ _ => True) (fun z => absurd (by omega) ok) (fun z => absurd (by omega) ok) (fun _ => ⟨rfl, q_fx.rf, rfl, fun _ => rfl⟩)
    · intro m1 f1
      have K1 := K m1 f1
      have e1 := K1.1.1
      refine q_enter (by decide +kernel) (by simp) (Nat.le_of_ble_eq_true rfl) ?_
      exact bkX12_above_0 (q_in_of (by omega) (by omega)) (fun z => absurd (by omega) ok) (fun _ => ⟨rfl, r_no (m := m) K1⟩)
