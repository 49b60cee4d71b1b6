theorem sp_settleFirst {b : Int} {m : qm} {D : Int → Int} (h : a_e36 (m 12) D) (v : a_DV D) : q_Ev yX11_settleFirst cX11_settleFirst 4 (some .boolean) 3 0 0 [(2, 0)] (q_sh0, q_rb b, m) (qK (q_rb b) (fun r m' => (r = 0 ∧ m' = m ∧ ∀ x y z, ¬ a_tr D x y z) ∨ (r = 1 ∧ ∃ x y z, a_fs D x y z ∧ a_e36 (m' 12) (a_pass D x y z) ∧ q_fx (fun c _ => c = 12) m m'))) := by
  refine q_enter (by decide +kernel) (by simp) (Nat.le_of_ble_eq_true rfl) ?_
  refine bkX11_settleFirst_0 ?_
  refine q_for (A := fun i m' => q_At yX11_settleFirst cX11_settleFirst 4 (some .boolean) 3 0 0 _ 2 [(2, 0), (0, i), (4, 0), (4, 0)] [] (q_sh0, q_rb b, m')) (fun i m' => 0 ≤ i ∧ m' = m ∧ ∀ x y z, a_tr D x y z → 36 * i ≤ 36 * x + 6 * y + z) 6 ?_ ?_ 0 m ⟨by omega, rfl, fun x y z t => by have := t.1; have := t.2.1; have := t.2.2.1; omega⟩
  · rintro i m' hi ⟨i0, rfl, g⟩
    exact bkX11_settleFirst_2 (fun _ => Or.inl ⟨rfl, rfl, fun x y z t => by have := g x y z t; have := t.1; have := t.2.1; have := t.2.2.1; omega⟩) (fun z => absurd z (by omega))
  · rintro i m' hi ⟨i0, rfl, g⟩ ih
    refine bkX11_settleFirst_2 (fun z => absurd z (by omega)) (fun _ => ?_)
    refine q_for (A := fun j m2 => q_At yX11_settleFirst cX11_settleFirst 4 (some .boolean) 3 0 0 _ 10 [(2, 0), (0, i), (0, j), (4, 0)] [] (q_sh0, q_rb b, m2)) (fun j m2 => 0 ≤ j ∧ m2 = m' ∧ ∀ x y z, a_tr D x y z → 36 * i + 6 * j ≤ 36 * x + 6 * y + z) 6 ?_ ?_ 0 m' ⟨by omega, rfl, fun x y z t => by have := g x y z t; omega⟩
    · rintro j m2 hj ⟨j0, rfl, g2⟩
      exact bkX11_settleFirst_10 (fun _ => q_in_of (by omega) (by omega)) (fun _ => ih _ ⟨by omega, rfl, fun x y z t => by have := g2 x y z t; omega⟩) (fun z => absurd z (by omega)) (fun z => absurd z (by omega)) (fun z => absurd z (by omega)) (fun z => absurd z (by omega))
    · rintro j m2 hj ⟨j0, rfl, g2⟩ ih2
      have c1 : i * 6 + j = 6 * i + j := by omega
      have e1 := h (6 * i + j) (by omega) (by omega)
      have d1 := v.1 (6 * i + j) (by omega) (by omega)
      refine bkX11_settleFirst_10 (fun z => absurd z (by omega)) (fun z => absurd z (by omega)) (fun _ => ⟨q_in_of (by omega) (by omega), q_in_of (by omega) (by omega), by omega⟩) (fun _ hz => ?_) (fun _ _ => q_in_of (by omega) (by omega)) (fun _ hz => ih2 _ ⟨by omega, rfl, fun x y z t => ?_⟩)
      · rw [c1, e1] at hz
        have nij : i ≠ j := fun e => by
          subst e
          have := v.2 i i0 (by omega)
          rw [show 6 * i + i = 7 * i by omega] at hz
          exact hz this
        refine q_for (A := fun q m3 => q_At yX11_settleFirst cX11_settleFirst 4 (some .boolean) 3 0 0 _ 38 [(2, 0), (0, i), (0, j), (0, q)] [] (q_sh0, q_rb b, m3)) (fun q m3 => 0 ≤ q ∧ m3 = m2 ∧ ∀ x y z, a_tr D x y z → 36 * i + 6 * j + q ≤ 36 * x + 6 * y + z) 6 ?_ ?_ 0 m2 ⟨by omega, rfl, fun x y z t => by have := g2 x y z t; omega⟩
        · rintro q m3 hq ⟨q0, rfl, g3⟩
          exact bkX11_settleFirst_38 (P4 := fun _ _ => True) (fun _ => q_in_of (by omega) (by omega)) (fun _ => ih2 _ ⟨by omega, rfl, fun x y z t => by have := g3 x y z t; omega⟩) (fun z => absurd z (by omega)) (fun z => absurd z (by omega)) (fun z => absurd z (by omega)) (fun z => absurd z (by omega)) (fun z => absurd z (by omega)) (fun z => absurd z (by omega)) (fun z => absurd z (by omega))
        · rintro q m3 hq ⟨q0, rfl, g3⟩ ih3
          have c2 : j * 6 + q = 6 * j + q := by omega
          have e2 := h (6 * j + q) (by omega) (by omega)
          have d2 := v.1 (6 * j + q) (by omega) (by omega)
          have nx : ¬ a_tr D i j q → ∀ x y z, a_tr D x y z → 36 * i + 6 * j + (q + 1) ≤ 36 * x + 6 * y + z := fun hn x y z t => by
            have a := g3 x y z t
            by_cases hc : 36 * i + 6 * j + (q + 1) ≤ 36 * x + 6 * y + z
            · exact hc
            · have t1 := t.1; have t2 := t.2.1; have t3 := t.2.2.1
              have : x = i ∧ y = j ∧ z = q := by omega
              obtain ⟨rfl, rfl, rfl⟩ := this
              exact absurd t hn
          refine bkX11_settleFirst_38 (P4 := fun _ m4 => a_e36 (m4 12) (a_pass D i j q) ∧ q_fx (fun c _ => c = 12) m3 m4) (fun z => absurd z (by omega)) (fun z => absurd z (by omega)) (fun _ _ => q_in_of (by omega) (by omega)) (fun _ z => ih3 _ ⟨by omega, rfl, nx (fun t => t.2.2.2.2.2.1 z.symm)⟩) (fun _ _ => ⟨q_in_of (by omega) (by omega), q_in_of (by omega) (by omega), by omega⟩) (fun _ _ _ => q_in_of (by omega) (by omega)) (fun _ _ z => ih3 _ ⟨by omega, rfl, nx (fun t => by have := t.2.2.2.2.2.2.2; rw [c2, e2] at z; omega)⟩) (fun _ z1 z2 => ?_) (fun _ z1 z2 r4 m4 h4 _ => ?_)
          · rw [c2, e2] at z2
            exact sp_passOn h v ⟨⟨i0, hi⟩, ⟨j0, hj⟩, ⟨q0, hq⟩, nij, fun e => by subst e; have := v.2 j j0 hj; rw [show 6 * j + j = 7 * j by omega] at z2; omega, fun e => z1 e.symm, by omega, z2⟩
          · rw [c2, e2] at z2
            exact Or.inr ⟨rfl, i, j, q, ⟨⟨⟨i0, hi⟩, ⟨j0, hj⟩, ⟨q0, hq⟩, nij, fun e => by subst e; have := v.2 j j0 hj; rw [show 6 * j + j = 7 * j by omega] at z2; omega, fun e => z1 e.symm, by omega, z2⟩, g3⟩, h4.1, h4.2⟩
      · rw [c1, e1] at hz
        have a := g2 x y z t
        by_cases hc : 36 * i + 6 * (j + 1) ≤ 36 * x + 6 * y + z
        · exact hc
        · have t1 := t.1; have t2 := t.2.1; have t3 := t.2.2.1
          have : x = i ∧ y = j := by omega
          obtain ⟨rfl, rfl⟩ := this
          have := t.2.2.2.2.2.2.1
          omega
theorem sp_settleOne {b : Int} {m : qm} {D : Int → Int} (h : a_e36 (m 197) D) (v : a_DV D) : q_Ev yX12_settleOne cX12_settleOne 5 (some .boolean) 2 0 0 [(2, 188)] (q_sh0, q_rb b, m) (qK (q_rb b) (fun r m' => (r = 0 ∧ m' = m ∧ ∀ x y z, ¬ a_tr D x y z) ∨ (r = 1 ∧ ∃ x y z, a_fs D x y z ∧ a_e36 (m' 197) (a_pass D x y z) ∧ q_fx (fun c _ => c = 197) m m'))) := by
  refine q_enter (by decide +kernel) (by simp) (Nat.le_of_ble_eq_true rfl) ?_
  refine bkX12_settleOne_0 ?_
  refine q_for (A := fun i m' => q_At yX12_settleOne cX12_settleOne 5 (some .boolean) 2 0 0 _ 2 [(2, 188), (0, i), (4, 0), (4, 0), (4, 0)] [] (q_sh0, q_rb b, m')) (fun i m' => 0 ≤ i ∧ m' = m ∧ ∀ x y z, a_tr D x y z → 36 * i ≤ 36 * x + 6 * y + z) 6 ?_ ?_ 0 m ⟨by omega, rfl, fun x y z t => by have := t.1; have := t.2.1; have := t.2.2.1; omega⟩
  · rintro i m' hi ⟨i0, rfl, g⟩
    exact bkX12_settleOne_2 (fun _ => Or.inl ⟨rfl, rfl, fun x y z t => by have := g x y z t; have := t.1; have := t.2.1; have := t.2.2.1; omega⟩) (fun z => absurd z (by omega))
  · rintro i m' hi ⟨i0, rfl, g⟩ ih
    refine bkX12_settleOne_2 (fun z => absurd z (by omega)) (fun _ => ?_)
    refine q_for (A := fun j m2 => q_At yX12_settleOne cX12_settleOne 5 (some .boolean) 2 0 0 _ 10 [(2, 188), (0, i), (0, j), (4, 0), (4, 0)] [] (q_sh0, q_rb b, m2)) (fun j m2 => 0 ≤ j ∧ m2 = m' ∧ ∀ x y z, a_tr D x y z → 36 * i + 6 * j ≤ 36 * x + 6 * y + z) 6 ?_ ?_ 0 m' ⟨by omega, rfl, fun x y z t => by have := g x y z t; omega⟩
    · rintro j m2 hj ⟨j0, rfl, g2⟩
      exact bkX12_settleOne_10 (fun _ => q_in_of (by omega) (by omega)) (fun _ => ih _ ⟨by omega, rfl, fun x y z t => by have := g2 x y z t; omega⟩) (fun z => absurd z (by omega))
    · rintro j m2 hj ⟨j0, rfl, g2⟩ ih2
      refine bkX12_settleOne_10 (fun z => absurd z (by omega)) (fun z => absurd z (by omega)) (fun _ => ?_)
      have e1 := h (6 * i + j) (by omega) (by omega)
      have d1 := v.1 (6 * i + j) (by omega) (by omega)
      refine q_for (A := fun q m3 => q_At yX12_settleOne cX12_settleOne 5 (some .boolean) 2 0 0 _ 18 [(2, 188), (0, i), (0, j), (0, q), (4, 0)] [] (q_sh0, q_rb b, m3)) (fun q m3 => 0 ≤ q ∧ m3 = m2 ∧ ∀ x y z, a_tr D x y z → 36 * i + 6 * j + q ≤ 36 * x + 6 * y + z) 6 ?_ ?_ 0 m2 ⟨by omega, rfl, fun x y z t => by have := g2 x y z t; omega⟩
      · rintro q m3 hq ⟨q0, rfl, g3⟩
        exact bkX12_settleOne_18 (P6 := fun _ _ => True) (fun _ => q_in_of (by omega) (by omega)) (fun _ => ih2 _ ⟨by omega, rfl, fun x y z t => by have := g3 x y z t; omega⟩) (fun z => absurd z (by omega)) (fun z => absurd z (by omega)) (fun z => absurd z (by omega)) (fun z => absurd z (by omega)) (fun z => absurd z (by omega)) (fun z => absurd z (by omega)) (fun z => absurd z (by omega)) (fun z => absurd z (by omega)) (fun z => absurd z (by omega)) (fun z => absurd z (by omega)) (fun z => absurd z (by omega)) (fun z => absurd z (by omega))
      · rintro q m3 hq ⟨q0, rfl, g3⟩ ih3
        have e2 := h (6 * j + q) (by omega) (by omega)
        have d2 := v.1 (6 * j + q) (by omega) (by omega)
        have hin : q_in32 (q + 1) := q_in_of (by omega) (by omega)
        have nx : ¬ a_tr D i j q → ∀ x y z, a_tr D x y z → 36 * i + 6 * j + (q + 1) ≤ 36 * x + 6 * y + z := fun hn x y z t => by
          have a := g3 x y z t
          by_cases hc : 36 * i + 6 * j + (q + 1) ≤ 36 * x + 6 * y + z
          · exact hc
          · have t1 := t.1; have t2 := t.2.1; have t3 := t.2.2.1
            have : x = i ∧ y = j ∧ z = q := by omega
            obtain ⟨rfl, rfl, rfl⟩ := this
            exact absurd t hn
        have mk : i ≠ j → j ≠ q → i ≠ q → min (m3 197 (6 * i + j)) (m3 197 (6 * j + q)) ≠ 0 → a_tr D i j q := fun n1 n2 n3 hm => ⟨⟨i0, hi⟩, ⟨j0, hj⟩, ⟨q0, hq⟩, n1, n2, n3, by clear nx g3 g2 g; omega, by clear nx g3 g2 g; omega⟩
        refine bkX12_settleOne_18 (P6 := fun _ m4 => a_e36 (m4 197) (a_pass D i j q) ∧ q_fx (fun c _ => c = 197) m3 m4) (fun z => absurd z (by omega)) (fun z => absurd z (by omega)) (fun _ _ => hin) (fun _ z => ih3 _ ⟨by omega, rfl, nx (fun t => t.2.2.2.1 z)⟩) (fun _ _ _ => hin) (fun _ _ z => ih3 _ ⟨by omega, rfl, nx (fun t => t.2.2.2.2.1 z)⟩) (fun _ _ _ _ => ⟨q_in_of (by omega) (by omega), q_in_of (by omega) (by omega), by omega, q_in_of (by omega) (by omega), q_in_of (by omega) (by omega), by omega⟩) ?_ ?_ (fun _ n1 n2 n3 hm r6 m6 h6 _ => Or.inr ⟨rfl, i, j, q, ⟨mk n1 n2 n3 hm, g3⟩, h6.1, h6.2⟩) (fun _ _ _ _ _ => hin) (fun _ n1 n2 n3 hm => ih3 _ ⟨by omega, rfl, nx (fun t => by have := t.2.2.2.2.2.2; clear nx g3 g2 g; omega)⟩) (fun _ _ _ _ => hin) (fun _ _ _ z => ih3 _ ⟨by omega, rfl, nx (fun t => t.2.2.2.2.2.1 z)⟩)
        · intro _ n1 n2 n3 hm
          have e3 := h (6 * i + q) (by omega) (by omega)
          have d3 := v.1 (6 * i + q) (by omega) (by omega)
          rw [q_up_i (show 6 * j + q ≠ 6 * i + j by omega), q_up_i (show 6 * i + q ≠ 6 * j + q by omega), q_up_i (show 6 * i + q ≠ 6 * i + j by omega), e1, e2, e3]
          exact ⟨q_in_of (by omega) (by omega), q_in_of (by omega) (by omega), q_in_of (by omega) (by omega), by omega, q_in_of (by omega) (by omega)⟩
        · intro _ n1 n2 n3 hm
          have t := mk n1 n2 n3 hm
          obtain ⟨-, -, -, -, -, -, p1, p2⟩ := t
          have e3 := h (6 * i + q) (by omega) (by omega)
          have d3 := v.1 (6 * i + q) (by omega) (by omega)
          rw [q_up_i (show 6 * j + q ≠ 6 * i + j by omega), q_up_i (show 6 * i + q ≠ 6 * j + q by omega), q_up_i (show 6 * i + q ≠ 6 * i + j by omega)]
          have v' := ((v.up (i := 6 * i + j) (v := D (6 * i + j) - min (D (6 * i + j)) (D (6 * j + q))) (by omega) (by omega) (fun ⟨w, _, _, e⟩ => by omega)).up (i := 6 * j + q) (v := D (6 * j + q) - min (D (6 * i + j)) (D (6 * j + q))) (by omega) (by omega) (fun ⟨w, _, _, e⟩ => by omega)).up (i := 6 * i + q) (v := min 999 (D (6 * i + q) + min (D (6 * i + j)) (D (6 * j + q)))) (by omega) (by omega) (fun ⟨w, _, _, e⟩ => by omega)
          exact (sp_setOffM (((h.up _ (by rw [e1, e2])).up _ (by rw [e1, e2])).up _ (by rw [e1, e2, e3])) v' ⟨i0, hi⟩ ⟨q0, hq⟩ n3).post (fun r m' w => ⟨w.1, ((((q_fx.rf (X := fun c _ => c = 197)).up rfl).up rfl).up rfl).tr w.2⟩)
