/-! cup -/
def a_cup (A : a_W) (j : Int) (w : Nat) (i : Nat) : List Int := (List.range i).map (fun (o : Nat) => g_n (A.2.1 j) (o : Int) w)
theorem a_cup_len {A : a_W} {j : Int} {w i : Nat} : (a_cup A j w i).length = i := by simp [a_cup]
theorem a_cup_succ {A : a_W} {j : Int} {w i : Nat} : a_cup A j w (i + 1) = a_cup A j w i ++ [g_n (A.2.1 j) (i : Int) w] := by simp [a_cup, List.range_succ]
/-- what a row that is told writes -/
theorem i_rw.Sc {m m' : qm} {l : List Int} (h : i_rw m l m') : q_fx x_Sc m m' := h.1.mono x_F_Sc
theorem i_mw.Sr {m m' : qm} {l : List Int} (h : i_mw m l m') : q_fx x_Sr m m' := h.1.mono x_G_Sr
theorem op_cup {LW : qm → Prop} (hL : i_Lf LW) {k : Nat} {b : Int} {m : qm} (I : i_I LW k m) (j v : Int) :
    q_Ev yX11_cup cX11_cup 5 (some .int) 4 0 0 [(2, 0), (0, j), (0, v)] (q_sh0, q_rb b, m) (qK (q_rb b) (fun r m1 => q_Ev yX12_cup cX12_cup 8 (some .int) 3 0 0 [(2, 188), (0, j), (0, v)] (q_sh0, q_rb b, m1) (i_O LW (k + 1) r))) := by
  obtain ⟨n, B, T1, T3, W1, W3, K⟩ := i_know I
  have h9 := T3.1
  have e0 := T1.1
  generalize hA : a_of m = A at W1 W3 K
  have hT : (a_Tof m).1 = m 189 := rfl
  by_cases ok : (0 ≤ j ∧ j < n) ∧ (0 ≤ v ∧ v ≤ 60)
  · have lv := a_lv T3 W3 (j := j) ok.1.1 ok.1.2
    obtain ⟨w, hw⟩ : ∃ w : Nat, (w : Int) = min v (A.1.1 j) := ⟨(min v (A.1.1 j)).toNat, by omega⟩
    refine i_joinS hL I (R := (w : Int)) (o := some (a_cup A j w 7)) (fun l z => by cases z; rw [a_cup_len]; decide) ?_ ?_
    · refine q_enter (by decide +kernel) (by simp) (Nat.le_of_ble_eq_true rfl) ?_
      refine bkX11_cup_0 (fun _ z => absurd z (by omega)) (fun _ _ _ => by omega) (fun _ _ _ => ?_) (fun _ _ z => absurd z (by omega)) (fun z => absurd z (by omega))
      rw [show m 8 j = _ from W1.lv j ok.1.1 ok.1.2, ← hw]
      refine q_for (A := fun i m' => q_At yX11_cup cX11_cup 5 (some .int) 4 0 0 _ 41 [(2, 0), (0, j), (0, v), (0, (w : Int)), (0, i)] [] (q_sh0, q_rb b, m')) (fun i m' => ∃ x : Nat, i = x ∧ x ≤ 7 ∧ i_rw m (a_cup A j w x) m') 7 ?_ ?_ 0 _ ⟨0, rfl, by omega, i_rw.clear q_fx.rf⟩
      · rintro i m' hi ⟨x, rfl, hx, h⟩
        have : x = 7 := by omega
        subst this
        exact bkX11_cup_41 (P2 := fun _ _ => True) (fun _ => ⟨rfl, h.Sc, h.rc⟩) (fun z => absurd z (by omega)) (fun z => absurd z (by omega)) (fun z => absurd z (by omega))
      · rintro i m' hi ⟨x, rfl, hx, h⟩ ih
        have W' := W1.fr h.1 (by unfold w_z x_F; omega)
        refine bkX11_cup_41 (P2 := fun r2 m2 => m2 = m' ∧ r2 = g_n (A.2.1 j) (x : Int) w) (fun z => absurd z (by omega)) (fun _ => ?_) ?_ ?_
        · exact sp_dropsW q_st5 W' T3 W3 ok.1 (by omega)
        · rintro _ r2 m2 ⟨rfl, rfl⟩ _
          exact ⟨h.len (by rw [a_cup_len]; omega), q_in_of (by omega) (by omega)⟩
        · rintro _ r2 m2 ⟨rfl, rfl⟩ _
          exact ih _ ⟨x + 1, by omega, by omega, by rw [a_cup_succ]; exact h.tell⟩
    · intro m1 f1
      obtain ⟨T2, W2⟩ := K m1 f1
      have e1 := T2.1
      have hr := W3.2.1
      refine q_enter (by decide +kernel) (by simp) (Nat.le_of_ble_eq_true rfl) ?_
      refine bkX12_cup_0 (q_in_of (by omega) (by omega)) (fun _ _ => by omega) (fun _ _ => ?_) (fun _ z => absurd ok.2 z) (fun z => absurd (by omega) z)
      rw [show m1 190 j = _ from W2.lv j ok.1.1 ok.1.2, ← hw]
      -- telling
      have k3 : ∀ m0 : qm, q_fx x_Sr m1 m0 → (∀ o : Nat, o < 7 → m0 218 o = g_n (A.2.1 j) (o : Int) w) → q_At yX12_cup cX12_cup 8 (some .int) 3 0 0 (qK (q_rb b) (fun r m2 => r = (w : Int) ∧ q_fx x_Sr m1 m2 ∧ i_rr m1 m2 (some (a_cup A j w 7)))) 115 [(2, 188), (0, j), (0, v), (0, (w : Int)), (2, 218), (0, 7), (0, 0), (4, 0)] [] (q_sh0, q_rb b, q_up m0 188 16 0) := by
        intro m0 f0 a0
        refine q_for (A := fun i m' => q_At yX12_cup cX12_cup 8 (some .int) 3 0 0 _ 115 [(2, 188), (0, j), (0, v), (0, (w : Int)), (2, 218), (0, 7), (0, i), (4, 0)] [] (q_sh0, q_rb b, m')) (fun i m' => ∃ x : Nat, i = x ∧ x ≤ 7 ∧ i_mw m0 (a_cup A j w x) m') 7 ?_ ?_ 0 _ ⟨0, rfl, by omega, i_mw.clear q_fx.rf⟩
        · rintro i m' hi ⟨x, rfl, hx, h⟩
          have : x = 7 := by omega
          subst this
          exact bkX12_cup_115 (fun _ => ⟨rfl, f0.tr h.Sr, h.rr⟩) (fun z => absurd z (by omega)) (fun z => absurd z (by omega))
        · rintro i m' hi ⟨x, rfl, hx, h⟩ ih
          have l1 := h.len (by rw [a_cup_len]; omega)
          refine bkX12_cup_115 (fun z => absurd z (by omega)) (fun _ => ⟨by omega, l1, q_in_of (by omega) (by omega)⟩) (fun _ => ?_)
          rw [h.1 218 _ (by unfold x_G; omega), a0 x (by omega)]
          exact ih _ ⟨x + 1, by omega, by omega, by rw [a_cup_succ]; exact h.tell⟩
      -- counting
      have k2 : ∀ m0 : qm, q_fx (fun c i => c = 218 ∨ (c = 188 ∧ i = 17)) m1 m0 → (∀ o : Nat, o < 7 → m0 218 o = 0) → q_At yX12_cup cX12_cup 8 (some .int) 3 0 0 (qK (q_rb b) (fun r m2 => r = (w : Int) ∧ q_fx x_Sr m1 m2 ∧ i_rr m1 m2 (some (a_cup A j w 7)))) 63 [(2, 188), (0, j), (0, v), (0, (w : Int)), (0, 0), (4, 0), (4, 0), (4, 0)] [] (q_sh0, q_rb b, m0) := by
        intro m0 f0 a0
        refine q_for (A := fun i m' => q_At yX12_cup cX12_cup 8 (some .int) 3 0 0 _ 63 [(2, 188), (0, j), (0, v), (0, (w : Int)), (0, i), (4, 0), (4, 0), (4, 0)] [] (q_sh0, q_rb b, m')) (fun i m' => ∃ x : Nat, i = x ∧ x ≤ w ∧ q_fx (fun c i => c = 218 ∨ (c = 188 ∧ i = 17)) m1 m' ∧ ∀ o : Nat, o < 7 → m' 218 o = g_n (A.2.1 j) (o : Int) x) w ?_ ?_ 0 _ ⟨0, rfl, by omega, f0, a0⟩
        · rintro i m' hi ⟨x, rfl, hx, f, h⟩
          have : x = w := by omega
          subst this
          exact bkX12_cup_63 (fun _ => k3 m' (f.mono (fun c i z => by
            rcases z with z | z
            · subst z; exact ⟨by decide, by simp [x_A, x_T, x_P, x_N, x_X, x_S, x_U, x_K, x_L]⟩
            · obtain ⟨rfl, rfl⟩ := z; exact x_Sr17)) h) (fun z => absurd z (by omega)) (fun z => absurd z (by omega))
        · rintro i m' hi ⟨x, rfl, hx, f, h⟩ ih
          have e : m' 196 (60 * j + x) = A.2.1 j x := (f _ _ (by omega)).trans (W2.2.1 j x ok.1.1 ok.1.2 (by omega) (by show (x : Int) < m1 190 j; rw [show m1 190 j = _ from W2.lv j ok.1.1 ok.1.2]; omega))
          have hrx := hr j x ok.1.1 ok.1.2 (by omega) (by omega)
          obtain ⟨q, hq⟩ : ∃ q : Nat, A.2.1 j x = q := ⟨(A.2.1 j x).toNat, by omega⟩
          have hq7 : q < 7 := by omega
          have b1 := g_n_in (f := A.2.1 j) (v := (q : Int)) x
          refine bkX12_cup_63 (fun z => absurd z (by omega)) (fun _ => ?_) (fun _ => ?_)
          · rw [e, hq, h q hq7]
            exact ⟨q_in_of (by omega) (by omega), q_in_of (by omega) (by omega), by omega, by omega, q_in_of (by omega) (by omega), q_in_of (by omega) (by omega)⟩
          · rw [e, hq, h q hq7]
            refine ih _ ⟨x + 1, by omega, by omega, f.up (Or.inl rfl), fun o ho => ?_⟩
            simp only [g_n]
            by_cases hoq : o = q
            · subst hoq; rw [q_up_s, if_pos hq]
            · rw [q_up_i (by omega), h o ho, if_neg (by omega)]; omega
      refine q_for (A := fun i m' => q_At yX12_cup cX12_cup 8 (some .int) 3 0 0 _ 39 [(2, 188), (0, j), (0, v), (0, (w : Int)), (0, i), (4, 0), (4, 0), (4, 0)] [] (q_sh0, q_rb b, m')) (fun i m' => 0 ≤ i ∧ i ≤ 7 ∧ q_fx (fun c i => c = 218 ∨ (c = 188 ∧ i = 17)) m1 m' ∧ ∀ o : Int, 0 ≤ o → o < i → m' 218 o = 0) 7 ?_ ?_ 0 _ ⟨by omega, by omega, q_fx.rf.up (Or.inr ⟨rfl, rfl⟩), fun o a b => absurd a (by omega)⟩
      · rintro i m' hi ⟨i0, i1, f, h⟩
        exact bkX12_cup_39 (fun _ => k2 m' f (fun o ho => h o (by omega) (by omega))) (fun z => absurd z (by omega)) (fun z => absurd z (by omega))
      · rintro i m' hi ⟨i0, i1, f, h⟩ ih
        refine bkX12_cup_39 (fun z => absurd z (by omega)) (fun _ => ⟨by omega, q_in_of (by omega) (by omega)⟩) (fun _ => ?_)
        refine ih _ ⟨by omega, by omega, f.up (Or.inl rfl), fun o a b => ?_⟩
        by_cases ho : o = i
        · subst ho; exact q_up_s
        · rw [q_up_i ho]; exact h o a (by omega)
  · refine i_joinS hL I (R := -1) (o := none) (fun l z => by cases z) ?_ ?_
    · refine q_enter (by decide +kernel) (by simp) (Nat.le_of_ble_eq_true rfl) ?_
      exact bkX11_cup_0 (fun _ _ => ⟨rfl, q_fx.rf, rfl, fun _ => rfl⟩) (fun z1 z2 z3 => absurd (by omega) ok) (fun z1 z2 z3 => absurd (by omega) ok) (fun _ _ _ => ⟨rfl, q_fx.rf, rfl, fun _ => rfl⟩) (fun _ => ⟨rfl, q_fx.rf, rfl, fun _ => rfl⟩)
    · intro m1 f1
      obtain ⟨T2, W2⟩ := K m1 f1
      have e1 := T2.1
      refine q_enter (by decide +kernel) (by simp) (Nat.le_of_ble_eq_true rfl) ?_
      exact bkX12_cup_0 (q_in_of (by omega) (by omega)) (fun z1 z2 => absurd (by omega) ok) (fun z1 z2 => absurd (by omega) ok) (fun _ _ => ⟨rfl, x_Sr0, i_g0r⟩) (fun _ => ⟨rfl, x_Sr0, i_g0r⟩)
/-! spread -/
def a_sp (c : Int → Int) : Nat → Int × Int × Int × Int
  | 0 => (0, 0, -1, 0)
  | k + 1 => ((a_sp c k).1 + c k, if (a_sp c k).2.1 < c k then c k else (a_sp c k).2.1, if (a_sp c k).2.1 < c k then (k : Int) else (a_sp c k).2.2.1, q_oior (a_sp c k).2.2.2 (if 0 < c k then q_oishl 1 k else 0))
theorem a_sp_in {c : Int → Int} {n : Nat} (hc : ∀ j : Int, 0 ≤ j → j < n → 0 ≤ c j ∧ c j ≤ 60) : ∀ k : Nat, k ≤ n → (a_sp c k).1 = g_s c k ∧ 0 ≤ (a_sp c k).1 ∧ (a_sp c k).1 ≤ 60 * k ∧ 0 ≤ (a_sp c k).2.1 ∧ ((a_sp c k).2.2.1 = -1 → (a_sp c k).1 = 0 ∧ (a_sp c k).2.1 = 0) ∧ ((a_sp c k).2.2.1 = -1 ∨ (0 ≤ (a_sp c k).2.2.1 ∧ (a_sp c k).2.2.1 < k))
  | 0, _ => by simp [a_sp, g_s]
  | k + 1, hk => by
    obtain ⟨a, b1, b, d, e, f⟩ := a_sp_in hc k (by omega)
    have z := hc k (by omega) (by omega)
    simp only [a_sp, g_s]
    by_cases h : (a_sp c k).2.1 < c k
    · rw [if_pos h, if_pos h]
      exact ⟨by omega, by omega, by omega, by omega, fun y => absurd y (by omega), Or.inr ⟨by omega, by omega⟩⟩
    · rw [if_neg h, if_neg h]
      refine ⟨by omega, by omega, by omega, by omega, fun y => ?_, ?_⟩
      · have := e y; omega
      · rcases f with f | f
        · exact Or.inl f
        · exact Or.inr ⟨by omega, by omega⟩
/-- the jar that the reference calls best so far -/
def a_bst (c : Int → Int) (k : Nat) : Int := max 0 (a_sp c k).2.2.1
theorem a_bst_c {c : Int → Int} {n : Nat} (hc : ∀ j : Int, 0 ≤ j → j < n → 0 ≤ c j ∧ c j ≤ 60) : ∀ k : Nat, k ≤ n → 0 < k → (a_sp c k).2.1 = c (a_bst c k)
  | 0, _, h => absurd h (by omega)
  | k + 1, hk, _ => by
    have z := hc k (by omega) (by omega)
    obtain ⟨a, b1, b, d, e, f⟩ := a_sp_in hc k (by omega)
    have e1 : (a_sp c (k + 1)).2.1 = if (a_sp c k).2.1 < c k then c k else (a_sp c k).2.1 := rfl
    have e2 : (a_sp c (k + 1)).2.2.1 = if (a_sp c k).2.1 < c k then (k : Int) else (a_sp c k).2.2.1 := rfl
    by_cases h : (a_sp c k).2.1 < c k
    · rw [if_pos h] at e1 e2
      unfold a_bst
      rw [e1, e2]
      exact congrArg c (by omega)
    · rw [if_neg h] at e1 e2
      unfold a_bst
      rw [e1, e2]
      by_cases hk0 : k = 0
      · subst hk0
        have q1 : (a_sp c 0).2.1 = 0 := rfl
        have q2 : (a_sp c 0).2.2.1 = -1 := rfl
        have z0 : 0 ≤ c 0 := z.1
        have h0 : ¬ 0 < c 0 := h
        rw [q1, q2]
        show (0 : Int) = c (max 0 (-1))
        rw [show max (0 : Int) (-1) = 0 by decide]
        omega
      · exact a_bst_c hc k (by omega) (by omega)
theorem a_bst_st {c : Int → Int} {n : Nat} (hc : ∀ j : Int, 0 ≤ j → j < n → 0 ≤ c j ∧ c j ≤ 60) {k : Nat} (hk : k < n) : a_bst c (k + 1) = if c (a_bst c k) < c k then (k : Int) else a_bst c k := by
  have z := hc k (by omega) (by omega)
  obtain ⟨a, b1, b, d, e, f⟩ := a_sp_in hc k (by omega)
  have e2 : (a_sp c (k + 1)).2.2.1 = if (a_sp c k).2.1 < c k then (k : Int) else (a_sp c k).2.2.1 := rfl
  by_cases hk0 : k = 0
  · subst hk0
    have q1 : a_bst c 0 = 0 := by show max 0 (-1) = (0 : Int); decide
    rw [q1, if_neg (by simp)]
    unfold a_bst
    rw [e2]
    split
    · decide
    · show max 0 (-1) = (0 : Int); decide
  · have g := a_bst_c hc k (by omega) (by omega)
    rw [← g]
    unfold a_bst
    rw [e2]
    by_cases h : (a_sp c k).2.1 < c k
    · rw [if_pos h, if_pos h]; omega
    · rw [if_neg h, if_neg h]
def a_cnt (A : a_W) (v : Int) : Int → Int := fun j => g_n (A.2.1 j) v (A.1.1 j).toNat
theorem op_spread {LW : qm → Prop} (hL : i_Lf LW) {k : Nat} {b : Int} {m : qm} (I : i_I LW k m) (v : Int) :
    q_Ev yX11_spread cX11_spread 8 (some .int) 4 0 0 [(2, 0), (0, v)] (q_sh0, q_rb b, m) (qK (q_rb b) (fun r m1 => q_Ev yX12_spread cX12_spread 7 (some .int) 3 0 0 [(2, 188), (0, v)] (q_sh0, q_rb b, m1) (i_O LW (k + 1) r))) := by
  obtain ⟨n, B, T1, T3, W1, W3, K⟩ := i_know I
  have h9 := T3.1
  have e0 := T1.1
  generalize hA : a_of m = A at W1 W3 K
  by_cases ok : 0 ≤ v ∧ v ≤ 6
  · have hc : ∀ j : Int, 0 ≤ j → j < n → 0 ≤ a_cnt A v j ∧ a_cnt A v j ≤ 60 := fun j a b => by
      have l := a_lv T3 W3 a b
      have g := g_n_in (f := A.2.1 j) (v := v) (A.1.1 j).toNat
      unfold a_cnt; omega
    generalize hcn : a_cnt A v = c at hc
    have hcj : ∀ j, c j = g_n (A.2.1 j) v (A.1.1 j).toNat := fun j => by rw [← hcn]; rfl
    have sin := a_sp_in hc
    refine i_joinS hL I (R := (a_sp c n).1) (o := some (if 0 < (a_sp c n).1 then [(a_sp c n).2.2.1, (a_sp c n).2.1, (a_sp c n).2.2.2] else [])) (fun l z => by cases z; split <;> simp) ?_ ?_
    · refine q_enter (by decide +kernel) (by simp) (Nat.le_of_ble_eq_true rfl) ?_
      refine bkX11_spread_0 (fun _ => ?_) (fun z => absurd (by omega) z)
      refine q_for1 (A := fun i (x : Int × Int × Int × Int) m' => q_At yX11_spread cX11_spread 8 (some .int) 4 0 0 _ 22 [(2, 0), (0, v), (0, x.1), (0, x.2.1), (0, x.2.2.1), (0, x.2.2.2), (0, i), (4, 0)] [] (q_sh0, q_rb b, m')) (fun i x m' => ∃ u : Nat, i = u ∧ u ≤ n ∧ m' = m ∧ x = a_sp c u) n ?_ ?_ 0 (0, 0, -1, 0) m ⟨0, rfl, by omega, rfl, rfl⟩
      · rintro i x m' hi ⟨u, rfl, hu, rfl, rfl⟩
        have : u = n := by omega
        subst this
        refine bkX11_spread_22 (P7 := fun _ _ => True) (fun _ z => ?_) (fun _ _ => by decide) (fun _ z => ?_) (fun z => absurd z (by omega)) (fun z => absurd z (by omega)) (fun z => absurd z (by omega)) (fun z => absurd z (by omega)) (fun z => absurd z (by omega)) (fun z => absurd z (by omega)) (fun z => absurd z (by omega)) (fun z => absurd z (by omega)) (fun z => absurd z (by omega)) (fun z => absurd z (by omega)) (fun z => absurd z (by omega))
        · have h := i_rw.clear (m := m') (q_fx.rf (X := x_F))
          rw [if_neg (by omega)]
          exact ⟨rfl, h.Sc, h.rc⟩
        · have h1 := i_rw.clear (m := m') (q_fx.rf (X := x_F))
          have q1 : q_up m' 0 16 0 0 16 = 0 := q_up_s
          have h2 := i_rw.tell (v := (a_sp c u).2.2.1) h1
          rw [q1] at h2
          have q2 : q_up (q_up (q_up m' 0 16 0) 169 0 (a_sp c u).2.2.1) 0 16 (0 + 1) 0 16 = 0 + 1 := q_up_s
          have h3 := i_rw.tell (v := (a_sp c u).2.1) h2
          rw [q2] at h3
          have q3 : q_up (q_up (q_up (q_up (q_up m' 0 16 0) 169 0 (a_sp c u).2.2.1) 0 16 (0 + 1)) 169 (0 + 1) (a_sp c u).2.1) 0 16 (0 + 1 + 1) 0 16 = 0 + 1 + 1 := q_up_s
          have h4 := i_rw.tell (v := (a_sp c u).2.2.2) h3
          rw [q3] at h4
          rw [if_pos z]
          exact ⟨rfl, h4.Sc, h4.rc⟩
      · rintro i x m' hi ⟨u, rfl, hu, rfl, rfl⟩ ih
        have lv := a_lv T3 W3 (j := (u : Int)) (by omega) (by omega)
        have si := sin u hu
        have cu := hc u (by omega) (by omega)
        refine bkX11_spread_22 (P7 := fun r m'' => m'' = m' ∧ r = c u) (fun z => absurd z (by omega)) (fun z => absurd z (by omega)) (fun z => absurd z (by omega)) (fun _ => by omega) (fun _ => ?_) ?_ (fun _ _ _ _ _ _ _ => q_in_of (by omega) (by omega)) ?_ (fun _ _ _ _ _ _ _ => q_in_of (by omega) (by omega)) ?_ (fun _ _ _ _ _ _ _ => q_in_of (by omega) (by omega)) ?_ (fun _ _ _ _ _ _ _ => q_in_of (by omega) (by omega)) ?_
        · rw [hcj, show m' 8 (u : Int) = _ from W1.lv u (by omega) (by omega)]
          exact sp_dropsW q_st5 W1 T3 W3 (by omega) (by omega)
        · rintro _ r7 m7 ⟨rfl, rfl⟩ _; exact q_in_of (by omega) (by omega)
        · rintro _ r7 m7 ⟨rfl, rfl⟩ _ z1 z2
          exact ih ((a_sp c u).1 + c u, (a_sp c u).2.1, (a_sp c u).2.2.1, q_oior (a_sp c u).2.2.2 0) _ ⟨u + 1, by omega, by omega, rfl, by simp only [a_sp, if_neg (show ¬ (a_sp c u).2.1 < c u by omega), if_neg (show ¬ 0 < c u by omega)]⟩
        · rintro _ r7 m7 ⟨rfl, rfl⟩ _ z1 z2
          exact absurd z2 (by omega)
        · rintro _ r7 m7 ⟨rfl, rfl⟩ _ z1 z2
          exact ih ((a_sp c u).1 + c u, (a_sp c u).2.1, (a_sp c u).2.2.1, q_oior (a_sp c u).2.2.2 (q_oishl 1 u)) _ ⟨u + 1, by omega, by omega, rfl, by simp only [a_sp, if_neg (show ¬ (a_sp c u).2.1 < c u by omega), if_pos (show 0 < c u by omega)]⟩
        · rintro _ r7 m7 ⟨rfl, rfl⟩ _ z1 z2
          exact ih ((a_sp c u).1 + c u, c u, (u : Int), q_oior (a_sp c u).2.2.2 (q_oishl 1 u)) _ ⟨u + 1, by omega, by omega, rfl, by simp only [a_sp, if_pos (show (a_sp c u).2.1 < c u by omega), if_pos (show 0 < c u by omega)]⟩
    · intro m1 f1
      obtain ⟨T2, W2⟩ := K m1 f1
      have e1 : q_up m1 188 17 0 188 0 = n := (q_up_i (by decide)).trans T2.1
      have W0 : r_W (q_up m1 188 17 0) n A := W2.fr (X := fun c i => c = 188 ∧ i = 17) (q_fx.rf.up ⟨rfl, rfl⟩) (by omega)
      have bin : ∀ u : Nat, u ≤ n → 0 < n → 0 ≤ a_bst c u ∧ a_bst c u < n := fun u hu h0 => by
        have := (sin u hu).2.2.2.2.2
        unfold a_bst; omega
      refine q_enter (by decide +kernel) (by simp) (Nat.le_of_ble_eq_true rfl) ?_
      refine bkX12_spread_0 (fun _ => ?_) (fun z => absurd ok z)
      refine q_for1 (A := fun i (x : Int × Int × Int) m' => q_At yX12_spread cX12_spread 7 (some .int) 3 0 0 _ 24 [(2, 188), (0, v), (0, x.1), (0, x.2.1), (0, x.2.2), (0, i), (4, 0)] [] (q_sh0, q_rb b, m')) (fun i x m' => ∃ u : Nat, i = u ∧ u ≤ n ∧ m' = q_up m1 188 17 0 ∧ x = ((a_sp c u).1, a_bst c u, (a_sp c u).2.2.2)) n ?_ ?_ 0 (0, 0, 0) _ ⟨0, rfl, by omega, rfl, rfl⟩
      · rintro i x m' hi ⟨u, rfl, hu, hm, rfl⟩
        have : u = n := by omega
        subst this
        have en : m' 188 0 = u := by rw [hm]; exact e1
        have W' : r_W m' u A := by rw [hm]; exact W0
        have F0 : q_fx x_Sr m1 m' := by rw [hm]; exact x_Sr0
        have rw0 := i_mw.clear (m := m') (q_fx.rf (X := x_G))
        refine bkX12_spread_24 (P7 := fun _ _ => True) (P9 := fun _ _ _ _ => True) (P11 := fun _ _ _ _ => True) (fun _ z => ?_) (fun _ _ => by decide) (P4 := fun r4 m4 => m4 = q_up (q_up (q_up m' 188 16 0) 199 (0 : Int) (a_bst c u)) 188 16 ((0 : Int) + 1) ∧ r4 = c (a_bst c u)) (fun _ z => ?_) (fun _ z r4 m4 h4 _ => ?_) (fun _ z r4 m4 h4 _ => ?_) (fun z => absurd z (by omega)) (fun z => absurd z (by omega)) (fun z => absurd z (by omega)) (fun z => absurd z (by omega)) (fun z => absurd z (by omega)) (fun z => absurd z (by omega)) (fun z => absurd z (by omega)) (fun z => absurd z (by omega)) (fun z => absurd z (by omega)) (fun z => absurd z (by omega)) (fun z => absurd z (by omega)) (fun z => absurd z (by omega))
        · rw [if_neg (by simp only at z; omega)]
          exact ⟨rfl, F0.tr rw0.Sr, rw0.rr⟩
        · simp only at z
          have hn0 : 0 < u := by
            rcases Nat.eq_zero_or_pos u with h | h
            · subst h; simp [a_sp] at z
            · exact h
          rw [hcj]
          refine sp_shareOf (W'.fr (X := x_G) ?_ (by unfold x_G; omega)) T3 W3 (bin u (Nat.le_refl u) hn0)
          exact ((q_fx.rf.up (by decide)).up (by simp [x_G])).up (by decide)
        · obtain ⟨rfl, -⟩ := h4
          rw [q_up_s]; decide
        · obtain ⟨rfl, rfl⟩ := h4
          simp only at z
          have hn0 : 0 < u := by
            rcases Nat.eq_zero_or_pos u with h | h
            · subst h; simp [a_sp] at z
            · exact h
          have hne : (a_sp c u).2.2.1 ≠ -1 := fun y => by have := (sin u hu).2.2.2.2.1 y; omega
          have eb : a_bst c u = (a_sp c u).2.2.1 := by have := (sin u hu).2.2.2.2.2; unfold a_bst; omega
          have ec := a_bst_c hc u hu hn0
          rw [← ec, eb, if_pos z]
          have q1 : q_up m' 188 16 0 188 16 = 0 := q_up_s
          have h2 := i_mw.tell (v := (a_sp c u).2.2.1) rw0
          rw [q1] at h2
          have q2 : q_up (q_up (q_up m' 188 16 0) 199 0 (a_sp c u).2.2.1) 188 16 (0 + 1) 188 16 = 0 + 1 := q_up_s
          have h3 := i_mw.tell (v := (a_sp c u).2.1) h2
          have q3 : q_up (q_up (q_up (q_up (q_up m' 188 16 0) 199 0 (a_sp c u).2.2.1) 188 16 (0 + 1)) 199 (q_up (q_up (q_up m' 188 16 0) 199 0 (a_sp c u).2.2.1) 188 16 (0 + 1) 188 16) (a_sp c u).2.1) 188 16 (q_up (q_up (q_up m' 188 16 0) 199 0 (a_sp c u).2.2.1) 188 16 (0 + 1) 188 16 + 1) 188 16 = q_up (q_up (q_up m' 188 16 0) 199 0 (a_sp c u).2.2.1) 188 16 (0 + 1) 188 16 + 1 := q_up_s
          have h4 := i_mw.tell (v := (a_sp c u).2.2.2) h3
          rw [q3] at h4
          exact ⟨rfl, F0.tr h4.Sr, h4.rr⟩
      · rintro i x m' hi ⟨u, rfl, hu, hm, rfl⟩ ih
        have en : m' 188 0 = n := by rw [hm]; exact e1
        have W' : r_W m' n A := by rw [hm]; exact W0
        have si := sin u hu
        have cu := hc u (by omega) (by omega)
        have bu := bin u hu (by omega)
        have st := a_bst_st hc (k := u) (by omega)
        have shu : q_Ev yX12_shareOf cX12_shareOf 5 (some .int) 1 0 0 [(2, 188), (0, (u : Int)), (0, v)] (q_sh0, q_rb b, m') (qK (q_rb b) (fun r m'' => m'' = m' ∧ r = c u)) := by rw [hcj]; exact sp_shareOf W' T3 W3 (by omega)
        have shb : q_Ev yX12_shareOf cX12_shareOf 5 (some .int) 1 0 0 [(2, 188), (0, a_bst c u), (0, v)] (q_sh0, q_rb b, m') (qK (q_rb b) (fun r m'' => m'' = m' ∧ r = c (a_bst c u))) := by rw [hcj]; exact sp_shareOf W' T3 W3 bu
        refine bkX12_spread_24 (P4 := fun _ _ => True) (fun z => absurd z (by omega)) (fun z => absurd z (by omega)) (fun z => absurd z (by omega)) (fun z => absurd z (by omega)) (fun z => absurd z (by omega)) (fun _ => shu) ?_ (P9 := fun _ _ r m'' => m'' = m' ∧ r = c (a_bst c u)) ?_ (fun _ _ _ _ _ _ _ _ _ _ _ => q_in_of (by omega) (by omega)) ?_ (fun _ _ _ _ _ _ _ _ _ _ _ => q_in_of (by omega) (by omega)) ?_ (P11 := fun _ _ r m'' => m'' = m' ∧ r = c (a_bst c u)) ?_ (fun _ _ _ _ _ _ _ _ _ _ _ => q_in_of (by omega) (by omega)) ?_ (fun _ _ _ _ _ _ _ _ _ _ _ => q_in_of (by omega) (by omega)) ?_
        · rintro _ r7 m7 ⟨rfl, rfl⟩ _; exact q_in_of (by simp only; omega) (by simp only; omega)
        · rintro _ r7 m7 ⟨rfl, rfl⟩ _ _; exact shb
        · rintro _ r7 m7 ⟨rfl, rfl⟩ _ z1 r9 m9 ⟨rfl, rfl⟩ _ z2
          exact ih ((a_sp c u).1 + c u, a_bst c u, q_oior (a_sp c u).2.2.2 0) _ ⟨u + 1, by omega, by omega, hm, by rw [st, if_neg (by omega)]; simp only [a_sp, if_neg (show ¬ 0 < c u by omega)]⟩
        · rintro _ r7 m7 ⟨rfl, rfl⟩ _ z1 r9 m9 ⟨rfl, rfl⟩ _ z2
          exact ih ((a_sp c u).1 + c u, (u : Int), q_oior (a_sp c u).2.2.2 0) _ ⟨u + 1, by omega, by omega, hm, by rw [st, if_pos z2]; simp only [a_sp, if_neg (show ¬ 0 < c u by omega)]⟩
        · rintro _ r7 m7 ⟨rfl, rfl⟩ _ _; exact shb
        · rintro _ r7 m7 ⟨rfl, rfl⟩ _ z1 r9 m9 ⟨rfl, rfl⟩ _ z2
          exact ih ((a_sp c u).1 + c u, a_bst c u, q_oior (a_sp c u).2.2.2 (q_oishl 1 u)) _ ⟨u + 1, by omega, by omega, hm, by rw [st, if_neg (by omega)]; simp only [a_sp, if_pos (show 0 < c u by omega)]⟩
        · rintro _ r7 m7 ⟨rfl, rfl⟩ _ z1 r9 m9 ⟨rfl, rfl⟩ _ z2
          exact ih ((a_sp c u).1 + c u, (u : Int), q_oior (a_sp c u).2.2.2 (q_oishl 1 u)) _ ⟨u + 1, by omega, by omega, hm, by rw [st, if_pos z2]; simp only [a_sp, if_pos (show 0 < c u by omega)]⟩
  · refine i_joinS hL I (R := -1) (o := none) (fun l z => by cases z) ?_ ?_
    · refine q_enter (by decide +kernel) (by simp) (Nat.le_of_ble_eq_true rfl) ?_
      exact bkX11_spread_0 (fun z => absurd (by omega) ok) (fun _ => ⟨rfl, q_fx.rf, rfl, fun _ => rfl⟩)
    · intro m1 f1
      refine q_enter (by decide +kernel) (by simp) (Nat.le_of_ble_eq_true rfl) ?_
      exact bkX12_spread_0 (fun z => absurd z ok) (fun _ => ⟨rfl, x_Sr0, i_g0r⟩)
/-! count -/
theorem op_count {LW : qm → Prop} (hL : i_Lf LW) {k : Nat} {b : Int} {m : qm} (I : i_I LW k m) (hk : k ≤ 600) (v : Int) :
    q_Ev yX11_count cX11_count 2 (some .int) 3 0 0 [(2, 0), (0, v)] (q_sh0, q_rb b, m) (qK (q_rb b) (fun r m1 => q_Ev yX12_count cX12_count 2 (some .int) 2 0 0 [(2, 188), (0, v)] (q_sh0, q_rb b, m1) (i_O LW (k + 1) r))) := by
  have I2 := I
  obtain ⟨n, t, p, a, x, r, s, u, kk, l⟩ := I2
  obtain ⟨T1, T2, T3⟩ := a_T_of t p
  obtain ⟨W1, W2, W3⟩ := a_N_of a
  have h9 := T3.1
  have lv : ∀ j : Int, 0 ≤ j → j < n → 0 ≤ m 190 j ∧ m 190 j ≤ 60 := fun j a b => by have := a_lv T3 W3 a b; exact ⟨this.1, Int.le_trans this.2.1 this.2.2⟩
  have db : ∀ d, 0 ≤ d → d < 36 → m 12 d = m 197 d ∧ 0 ≤ m 197 d ∧ m 197 d ≤ 999 := fun d d0 d1 => ⟨W1.2.1 d d0 d1, (W3.2.2.1 d d0 d1).1, (W3.2.2.1 d d0 d1).2⟩
  have hb3 := W3.2.2.2.2
  have e0 : ∀ c, c ≠ 188 → ∀ i, q_up m 188 17 0 c i = m c i := fun c hc i => q_up_c hc
  -- the reference's answer
  have R : ∀ c : Int, (v = 0 → c = m 188 0) → (v = 1 → c = m 188 10) → (v = 2 → c = m 188 11) → (v = 3 → c = g_s (m 190) n) → (v = 4 → c = m 188 30) → (v = 5 → c = m 188 49) → (v = 6 → c = m 188 16) → (v = 7 → c = m 188 14) → (v = 8 → c = g_s (m 197) 36) → (v < 0 ∨ 8 < v → c = -1) → q_Ev yX12_count cX12_count 2 (some .int) 2 0 0 [(2, 188), (0, v)] (q_sh0, q_rb b, m) (i_O LW (k + 1) c) := by
    intro c a0 a1 a2 a3 a4 a5 a6 a7 a8 a9
    refine i_O_of (b := b) (q_enter (by decide +kernel) (by simp) (Nat.le_of_ble_eq_true rfl) ?_)
    have fin := I.no hL
    refine bkX12_count_0 (fun z => ⟨(a0 z).symm, fin⟩) (fun _ z => ⟨(a1 z).symm, fin⟩) (fun _ _ z => ⟨(a2 z).symm, fin⟩) (fun _ _ _ z => sp_sumOf n (by rw [q_up_i (by decide)]; exact T2.1) h9 (fun j a b => by rw [e0 190 (by decide)]; exact lv j a b)) (fun _ _ _ z r5 m5 h5 _ => ?_) (fun _ _ _ _ z => ⟨(a4 z).symm, fin⟩) (fun _ _ _ _ _ z => ⟨(a5 z).symm, fin⟩) (fun _ _ _ _ _ _ z => ⟨(a6 z).symm, fin⟩) (fun _ _ _ _ _ _ _ z => ⟨(a7 z).symm, fin⟩) (fun _ _ _ _ _ _ _ _ z => sp_allDebts (fun d a b => by rw [e0 197 (by decide)]; exact (db d a b).2)) (fun _ _ _ _ _ _ _ _ z r5 m5 h5 _ => ?_) (fun z0 z1 z2 z3 z4 z5 z6 z7 z8 => ⟨(a9 (by omega)).symm, fin⟩)
    · obtain ⟨rfl, rfl⟩ := h5
      refine ⟨?_, fin⟩
      rw [a3 z]; congr 1
    · obtain ⟨rfl, rfl⟩ := h5
      refine ⟨?_, fin⟩
      rw [a8 z]; congr 1
  refine q_enter (by decide +kernel) (by simp) (Nat.le_of_ble_eq_true rfl) ?_
  refine bkX11_count_0 (fun z => R _ (fun _ => by rw [T1.1, T2.1]) (by omega) (by omega) (by omega) (by omega) (by omega) (by omega) (by omega) (by omega) (by omega)) (fun _ z => R _ (by omega) (fun _ => W1.2.2.1) (by omega) (by omega) (by omega) (by omega) (by omega) (by omega) (by omega) (by omega)) (fun _ _ z => sp_lostW q_st5 W1 W3 (by omega)) (fun _ _ z r4 m4 h4 _ => ?_) (fun _ _ _ z => sp_levels n T1.1 h9 (fun j a b => by rw [show m 8 j = m 190 j from W1.lv j a b]; exact lv j a b)) (fun _ _ _ z r4 m4 h4 _ => ?_) (fun _ _ _ _ z => R _ (by omega) (by omega) (by omega) (by omega) (fun _ => u.1) (by omega) (by omega) (by omega) (by omega) (by omega)) (fun _ _ _ _ _ z => R _ (by omega) (by omega) (by omega) (by omega) (by omega) (fun _ => s.1) (by omega) (by omega) (by omega) (by omega)) (fun _ _ _ _ _ _ z => R _ (by omega) (by omega) (by omega) (by omega) (by omega) (by omega) (fun _ => r.1) (by omega) (by omega) (by omega)) (fun _ _ _ _ _ _ _ z => R _ (by omega) (by omega) (by omega) (by omega) (by omega) (by omega) (by omega) (fun _ => x.1) (by omega) (by omega)) (fun _ _ _ _ _ _ _ _ z => sp_owedByAll q_st5 (fun d a b => by rw [show m (5 + 7) d = m 197 d from (db d a b).1]; exact (db d a b).2)) (fun _ _ _ _ _ _ _ _ z r4 m4 h4 _ => ?_) (fun z0 z1 z2 z3 z4 z5 z6 z7 z8 => R _ (by omega) (by omega) (by omega) (by omega) (by omega) (by omega) (by omega) (by omega) (by omega) (fun _ => rfl))
  · obtain ⟨rfl, rfl⟩ := h4
    exact R _ (by omega) (by omega) (fun _ => rfl) (by omega) (by omega) (by omega) (by omega) (by omega) (by omega) (by omega)
  · obtain ⟨rfl, rfl⟩ := h4
    exact R _ (by omega) (by omega) (by omega) (fun _ => g_s_en (fun j a b => W1.lv j a b)) (by omega) (by omega) (by omega) (by omega) (by omega) (by omega)
  · obtain ⟨rfl, rfl⟩ := h4
    exact R _ (by omega) (by omega) (by omega) (by omega) (by omega) (by omega) (by omega) (by omega) (fun _ => g_s_en (n := 36) (fun j a b => (db j a b).1)) (by omega)
