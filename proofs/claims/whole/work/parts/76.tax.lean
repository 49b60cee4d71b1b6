/-! ===== tax, marks ===== -/
def a_ls (f : Int → Int) (x : Nat) : List Int := (List.range x).map (fun (o : Nat) => f (o : Int))
theorem a_ls_len {f : Int → Int} {x : Nat} : (a_ls f x).length = x := by simp [a_ls]
theorem a_ls_succ {f : Int → Int} {x : Nat} : a_ls f (x + 1) = a_ls f x ++ [f (x : Int)] := by simp [a_ls, List.range_succ]
theorem i_joinT {LW : qm → Prop} (hL : i_Lf LW) {k n : Nat} {b : Int} {m : qm} (I : i_I LW k m) (hn : m 188 0 = n) {y1 y2 : MethodName} {c1 c2 : ByteArray} {n1 n2 d1 d2 : Nat} {rt : Option FieldType} {as1 as2 : List qv} {R : Int} {o : Option (List Int)} {A : a_W} (hA : a_of m = A)
    (hl : ∀ l, o = some l → l.length ≤ 10)
    (h1 : q_Ev y1 c1 n1 rt d1 0 0 as1 (q_sh0, q_rb b, m) (qK (q_rb b) (fun r m1 => r = R ∧ q_fx x_tC m m1 ∧ i_rc m m1 o)))
    (h2 : ∀ m1, q_fx x_tC m m1 → q_Ev y2 c2 n2 rt d2 0 0 as2 (q_sh0, q_rb b, m1) (qK (q_rb b) (fun r m2 => r = R ∧ q_fx x_tM m1 m2 ∧ r_W m2 n A ∧ i_rr m1 m2 o))) :
    q_Ev y1 c1 n1 rt d1 0 0 as1 (q_sh0, q_rb b, m) (qK (q_rb b) (fun r m1 => q_Ev y2 c2 n2 rt d2 0 0 as2 (q_sh0, q_rb b, m1) (i_O LW (k + 1) r))) := by
  subst hA
  obtain ⟨n', t, p, a, x, r, s, u, kk, l⟩ := I
  have e : n' = n := by have := t.2.2.1; omega
  subst e
  refine h1.post ?_
  rintro r1 m1 ⟨rfl, f1, g1⟩
  refine (h2 m1 f1).mono ?_
  rintro r' σ ⟨m2, rfl, rfl, f2, w2, g2⟩
  refine ⟨rfl, b, m2, rfl, i_I.look hL t p a x s u kk l f1 f2 w2 ?_⟩
  exact i_row r hl g1 g2 ⟨f2 0 16 (by unfold x_tM; omega), fun i => f2 169 i (by unfold x_tM; omega)⟩ ⟨f1 188 16 (by unfold x_tC; omega), fun i => f1 199 i (by unfold x_tC; omega)⟩
theorem i_knowT {LW : qm → Prop} {k : Nat} {m : qm} (I : i_I LW k m) : ∃ n : Nat, m 188 0 = n ∧ c_T m n (a_Tof m) ∧ a_TV n (a_Tof m) ∧ c_W m 5 n (a_of m) ∧ a_V (1500 * k) n (a_Tof m).1 (a_of m) ∧ ∀ m1, q_fx x_tC m m1 → r_T m1 n (a_Tof m) ∧ r_W m1 n (a_of m) := by
  obtain ⟨n, t, p, a, -⟩ := I
  obtain ⟨T1, T2, T3⟩ := a_T_of t p
  obtain ⟨W1, W2, W3⟩ := a_N_of a
  exact ⟨n, t.2.2.1, T1, T3, W1, W3, fun m1 f => ⟨T2.fr f (by unfold x_tC; omega), W2.fr f (by unfold x_tC; omega)⟩⟩
theorem a_cnt_in {B : Int} {n : Nat} {T : a_T} {A : a_W} (t : a_TV n T) (v : a_V B n T.1 A) {q : Int} : ∀ y : Nat, y ≤ n → 0 ≤ g_s (a_cnt A q) y ∧ g_s (a_cnt A q) y ≤ 60 * y := fun y hy => g_s_in (by decide) (fun j a b => by
  have l := a_lv t v a (j := j) (by omega)
  have z := g_n_in (f := A.2.1 j) (v := q) (A.1.1 j).toNat
  unfold a_cnt
  omega)
theorem x_F_tC : ∀ c i, x_F c i → x_tC c i := by intro c i; unfold x_F x_tC; omega
theorem x_G_tM : ∀ c i, x_G c i → x_tM c i := by intro c i; unfold x_G x_tM; omega
theorem x_tM0 {m : qm} : q_fx x_tM m (q_up m 188 17 0) := q_fx.rf.up (by unfold x_tM; decide)
theorem op_tax {LW : qm → Prop} (hL : i_Lf LW) {k : Nat} {b : Int} {m : qm} (I : i_I LW k m) (hk : k ≤ 600) (v : Int) :
    q_Ev yX11_tax cX11_tax 3 (some .int) 5 0 0 [(2, 0), (0, v)] (q_sh0, q_rb b, m) (qK (q_rb b) (fun r m1 => q_Ev yX12_tax cX12_tax 7 (some .int) 3 0 0 [(2, 188), (0, v)] (q_sh0, q_rb b, m1) (i_O LW (k + 1) r))) := by
  obtain ⟨n, en, T1, T3, W1, W3, K⟩ := i_knowT I
  have h9 := T3.1
  have e0 := T1.1
  generalize hA : a_of m = A at W1 W3 K
  generalize hT : a_Tof m = T at T1 T3 W3 K
  have l60 : ∀ j : Int, 0 ≤ j → j < n → A.1.1 j ≤ 60 := fun j a b => by have := a_lv T3 W3 a b; omega
  by_cases ok : 0 ≤ v ∧ v ≤ 200
  · obtain ⟨w, rfl⟩ : ∃ w : Nat, v = w := ⟨v.toNat, by omega⟩
    generalize hR : (a_bells n T A w).1.2.2 - A.1.2.2 = R
    generalize hS : (fun o => a_Sq n T A o w) = S
    have hS' : ∀ o, a_Sq n T A o w = S o := fun o => by rw [← hS]
    refine i_joinT hL I en hA (R := R) (o := some (a_ls S 7)) (fun l z => by cases z; rw [a_ls_len]; decide) ?_ ?_
    · refine q_enter (by decide +kernel) (by simp) (Nat.le_of_ble_eq_true rfl) ?_
      refine bkX11_tax_0 (fun _ => sp_tryAsNow T1 W1 h9 l60) (fun _ r3 m3 h3 _ => ?_) (fun z => absurd ok z)
      obtain ⟨w3, q3, s3, f3⟩ := h3
      have fin : ∀ (x : Nat) (m' : qm), x ≤ w → c_W m' 14 n (a_bells n T A x) → q_fx (fun c i => 14 ≤ c ∧ c ≤ 25) m m' → (∀ q, 0 ≤ q → q < 7 → m' 22 q = m 13 q + S q) → (a_bells n T A x).1.2.2 = (a_bells n T A w).1.2.2 → q_At yX11_tax cX11_tax 3 (some .int) 5 0 0 (qK (q_rb b) (fun r m1 => r = R ∧ q_fx x_tC m m1 ∧ i_rc m m1 (some (a_ls S 7)))) 54 [(2, 0), (0, (w : Int)), (0, 0)] [] (q_sh0, q_rb b, q_up m' 0 16 0) := by
        intro x m' hx c1 f1 s1 el
        have vx := W3.bells T3 x
        have W1' := W1.fr f1 (by unfold w_z; omega)
        refine q_for (A := fun i m' => q_At yX11_tax cX11_tax 3 (some .int) 5 0 0 _ 54 [(2, 0), (0, (w : Int)), (0, i)] [] (q_sh0, q_rb b, m')) (fun i m2 => ∃ y : Nat, i = y ∧ y ≤ 7 ∧ i_rw m' (a_ls S y) m2) 7 ?_ ?_ 0 _ ⟨0, rfl, by omega, i_rw.clear q_fx.rf⟩
        · rintro i m2 hi ⟨y, rfl, hy, h⟩
          have : y = 7 := by omega
          subst this
          have c2 := c1.fr h.1 (by unfold w_z x_F; omega)
          have W2 := W1'.fr h.1 (by unfold w_z x_F; omega)
          have b1 := vx.2.2.2.2
          have b2 := W3.2.2.2.2
          refine bkX11_tax_54 (P2 := fun r m4 => m4 = m2 ∧ r = (a_bells n T A x).1.2.2) (P3 := fun _ _ r m4 => m4 = m2 ∧ r = A.1.2.2) (fun _ => sp_lostW q_st14 c2 vx (by omega)) ?_ ?_ ?_ (fun z => absurd z (by omega)) (fun z => absurd z (by omega))
          · rintro _ r2 m4 ⟨rfl, rfl⟩ _
            exact sp_lostW q_st5 W2 W3 (by omega)
          · rintro _ r2 m4 ⟨rfl, rfl⟩ _ r3 m5 ⟨rfl, rfl⟩ _
            exact q_in_of (by omega) (by omega)
          · rintro _ r2 m4 ⟨rfl, rfl⟩ _ r3 m5 ⟨rfl, rfl⟩ _
            exact ⟨by omega, (f1.mono (fun c i z => Or.inl ⟨z.1, Int.le_trans z.2 (by decide)⟩)).tr (h.1.mono x_F_tC), h.2.1, h.2.2⟩
        · rintro i m2 hi ⟨y, rfl, hy, h⟩ ih
          have e1 : m2 22 y - m2 13 y = S y := by
            rw [h.1 22 y (by unfold x_F; omega), h.1 13 y (by unfold x_F; omega), f1 13 y (by omega), s1 y (by omega) (by omega)]; omega
          have bS : -540 ≤ S y ∧ S y ≤ 540 := by
            have c := a_con T3 W3 (y : Int) w
            have c1 := a_cnt_in (q := (y : Int)) T3 W3 n (Nat.le_refl n)
            have c2 := a_cnt_in (q := (y : Int)) T3 (W3.bells T3 w) n (Nat.le_refl n)
            rw [hS'] at c
            omega
          refine bkX11_tax_54 (P2 := fun _ _ => True) (P3 := fun _ _ _ _ => True) (fun z => absurd z (by omega)) (fun z => absurd z (by omega)) (fun z => absurd z (by omega)) (fun z => absurd z (by omega)) (fun _ => ⟨by omega, by rw [e1]; exact q_in_of (by omega) (by omega), h.len (by rw [a_ls_len]; omega), q_in_of (by omega) (by omega)⟩) (fun _ => ?_)
          rw [e1]
          exact ih _ ⟨y + 1, by omega, by omega, by rw [a_ls_succ]; exact h.tell⟩
      refine q_for (A := fun i m' => q_At yX11_tax cX11_tax 3 (some .int) 5 0 0 _ 15 [(2, 0), (0, (w : Int)), (0, i)] [] (q_sh0, q_rb b, m')) (fun i m' => ∃ x : Nat, i = x ∧ x ≤ w ∧ c_W m' 14 n (a_bells n T A x) ∧ c_Q m' 14 n T ∧ q_fx (fun c i => 14 ≤ c ∧ c ≤ 25) m m' ∧ ∀ q, 0 ≤ q → q < 7 → m' 22 q = m 13 q + a_Sq n T A q x) w ?_ ?_ 0 m3 ⟨0, rfl, by omega, w3, q3, f3.mono (fun c i z => by omega), fun q a b => by rw [s3 q a b]; simp [a_Sq]⟩
      · rintro i m' hi ⟨x, rfl, hx, c1, c2, c3, c4⟩
        have : x = w := by omega
        subst this
        exact bkX11_tax_15 (P3 := fun _ _ => True) (P6 := fun _ _ _ _ => True) (fun _ => fin x m' hx c1 c3 (fun q a b => by rw [c4 q a b, hS']) rfl) (fun z => absurd z (by omega)) (fun z => absurd z (by omega)) (fun z => absurd z (by omega)) (fun z => absurd z (by omega)) (fun z => absurd z (by omega))
      · rintro i m' hi ⟨x, rfl, hx, c1, c2, c3, c4⟩ ih
        have vw := W3.bells T3 x
        refine bkX11_tax_15 (P3 := fun r4 m4 => m4 = m' ∧ ((r4 = 1 ∧ ¬ a_mov n T.2.2.2.1 (a_bells n T A x).1.1) ∨ (r4 = 0 ∧ a_mov n T.2.2.2.1 (a_bells n T A x).1.1))) (P6 := fun _ _ _ m6 => c_W m6 14 n (a_bells n T A (x + 1)) ∧ (∀ q, 0 ≤ q → q < 7 → m6 22 q = m 13 q + a_Sq n T A q (x + 1)) ∧ q_fx (x_St 14) m' m6) (fun z => absurd z (by omega)) (fun _ => sp_isQuiet q_st14 c2.1 h9 c2.2.2.1 c1.lv) ?_ ?_ (fun _ _ _ _ _ _ _ _ _ _ => q_in_of (by omega) (by omega)) ?_
        · rintro _ r4 m4 ⟨rfl, h4⟩ _ z4
          have q : ¬ a_mov n T.2.2.2.1 (a_bells n T A x).1.1 := by
            rcases h4 with h4 | h4
            · exact h4.2
            · exact absurd h4.1 z4
          obtain ⟨d, rfl⟩ : ∃ d, w = x + d := ⟨w - x, by omega⟩
          have sm := a_bells_sm T3 W3 q d
          exact fin x m4 hx c1 c3 (fun q a b => by rw [c4 q a b, ← hS', sm.2]) sm.1.2.1.symm
        · rintro _ r4 m4 ⟨rfl, h4⟩ _ z4
          refine (sp_strikeW q_st14 c2 c1 T3 vw (by omega)).post (fun r m6 z => ⟨z.1, fun q a b => ?_, z.2.2⟩)
          rw [show m6 22 q = _ from z.2.1 q a b, show m4 (14 + 8) q = _ from c4 q a b]
          simp only [a_Sq]
          omega
        · rintro _ r4 m4 ⟨rfl, h4⟩ _ z4 r6 m6 ⟨c6, s6, f6⟩ _
          exact ih m6 ⟨x + 1, by omega, by omega, c6, c2.fr f6 (by unfold x_St; omega), c3.tr (f6.mono (fun c i z => by unfold x_St at z; omega)), s6⟩
    · intro m1 f1
      obtain ⟨T2, W2⟩ := K m1 f1
      have e1 := T2.1
      refine q_enter (by decide +kernel) (by simp) (Nat.le_of_ble_eq_true rfl) ?_
      refine bkX12_tax_0 (fun _ => ?_) (fun z => absurd ok z)
      -- telling
      have k5 : ∀ m0 : qm, q_fx x_tM m1 m0 → r_W m0 n A → (∀ o : Nat, o < 7 → m0 219 o = S o) → q_At yX12_tax cX12_tax 7 (some .int) 3 0 0 (qK (q_rb b) (fun r m2 => r = R ∧ q_fx x_tM m1 m2 ∧ r_W m2 n A ∧ i_rr m1 m2 (some (a_ls S 7)))) 171 [(2, 188), (0, (w : Int)), (0, R), (2, 219), (0, 7), (0, 0), (4, 0)] [] (q_sh0, q_rb b, q_up m0 188 16 0) := by
        intro m0 f0 r0 a0
        refine q_for (A := fun i m' => q_At yX12_tax cX12_tax 7 (some .int) 3 0 0 _ 171 [(2, 188), (0, (w : Int)), (0, R), (2, 219), (0, 7), (0, i), (4, 0)] [] (q_sh0, q_rb b, m')) (fun i m' => ∃ x : Nat, i = x ∧ x ≤ 7 ∧ i_mw m0 (a_ls S x) m') 7 ?_ ?_ 0 _ ⟨0, rfl, by omega, i_mw.clear q_fx.rf⟩
        · rintro i m' hi ⟨x, rfl, hx, h⟩
          have : x = 7 := by omega
          subst this
          exact bkX12_tax_171 (fun _ => ⟨rfl, f0.tr (h.1.mono x_G_tM), r0.fr h.1 (by unfold x_G; omega), h.2.1, h.2.2⟩) (fun z => absurd z (by omega)) (fun z => absurd z (by omega))
        · rintro i m' hi ⟨x, rfl, hx, h⟩ ih
          have l1 := h.len (by rw [a_ls_len]; omega)
          refine bkX12_tax_171 (fun z => absurd z (by omega)) (fun _ => ⟨by omega, l1, q_in_of (by omega) (by omega)⟩) (fun _ => ?_)
          rw [h.1 219 _ (by unfold x_G; omega), a0 x (by omega)]
          exact ih _ ⟨x + 1, by omega, by omega, by rw [a_ls_succ]; exact h.tell⟩
      have Vw := W3.bells T3 w
      -- taking off
      have k4 : ∀ m0 : qm, q_fx x_tM m1 m0 → r_T m0 n T → r_W m0 n (a_bells n T A w) → a_eq n (a_row (fun i => m0 205 (0 + i))) A → (∀ o : Nat, o < 7 → m0 219 o = g_s (a_cnt A o) n) → q_At yX12_tax cX12_tax 7 (some .int) 3 0 0 (qK (q_rb b) (fun r m2 => r = R ∧ q_fx x_tM m1 m2 ∧ r_W m2 n A ∧ i_rr m1 m2 (some (a_ls S 7)))) 99 [(2, 188), (0, (w : Int)), (0, R), (0, 0), (4, 0), (4, 0), (4, 0)] [] (q_sh0, q_rb b, m0) := by
        intro m0 f0 t0 r0 y0 a0
        refine q_for (A := fun i m' => q_At yX12_tax cX12_tax 7 (some .int) 3 0 0 _ 99 [(2, 188), (0, (w : Int)), (0, R), (0, i), (4, 0), (4, 0), (4, 0)] [] (q_sh0, q_rb b, m')) (fun i m' => ∃ x : Nat, i = x ∧ x ≤ 7 ∧ q_fx (fun c _ => c = 219) m0 m' ∧ (∀ o : Nat, o < x → m' 219 o = S o) ∧ ∀ o : Nat, x ≤ o → o < 7 → m' 219 o = g_s (a_cnt A o) n) 7 ?_ ?_ 0 _ ⟨0, rfl, by omega, q_fx.rf, fun o h => absurd h (by omega), fun o _ h => a0 o h⟩
        · rintro i m' hi ⟨x, rfl, hx, f, h1, h2⟩
          have : x = 7 := by omega
          subst this
          refine bkX12_tax_99 (fun _ => sp_bring (N := 597) qs205 (by decide) (by decide) (by decide)) ?_ (fun z => absurd z (by omega))
          rintro _ r2 m2 ⟨y2, f2⟩ _
          have : (fun i => m' 205 (0 + i)) = fun i => m0 205 (0 + i) := funext fun i => f _ _ (by omega)
          rw [this] at y2
          exact k5 m2 ((f0.tr (f.mono (fun c i z => by unfold x_tM; omega))).tr (f2.mono (fun c i z => by unfold x_tM; omega))) (r_W.bring h9 l60 y2 y0) (fun o ho => (f2 _ _ (by omega)).trans (h1 o ho))
        · rintro i m' hi ⟨x, rfl, hx, f, h1, h2⟩ ih
          have t' := t0.fr f (by omega)
          have e2 := t'.1
          refine bkX12_tax_99 (P2 := fun _ _ => True) (fun z => absurd z (by omega)) (fun z => absurd z (by omega)) (fun _ => ?_)
          refine q_for (A := fun i m' => q_At yX12_tax cX12_tax 7 (some .int) 3 0 0 _ 108 [(2, 188), (0, (w : Int)), (0, R), (0, (x : Int)), (0, i), (4, 0), (4, 0)] [] (q_sh0, q_rb b, m')) (fun i m' => ∃ y : Nat, i = y ∧ y ≤ n ∧ q_fx (fun c _ => c = 219) m0 m' ∧ (∀ o : Nat, o < x → m' 219 o = S o) ∧ (∀ o : Nat, x + 1 ≤ o → o < 7 → m' 219 o = g_s (a_cnt A o) n) ∧ m' 219 x = g_s (a_cnt A x) n - g_s (a_cnt (a_bells n T A w) x) y) n ?_ ?_ 0 _ ⟨0, rfl, by omega, f, h1, fun o a b => h2 o (by omega) b, by rw [h2 x (by omega) (by omega)]; simp [g_s]⟩
          · rintro i m2 hi ⟨y, rfl, hy, f2, g1, g2, g3⟩
            have : y = n := by omega
            subst this
            have t2 := (t0.fr f2 (by omega)).1
            refine bkX12_tax_108 (P2 := fun _ _ => True) (fun _ => q_in_of (by omega) (by omega)) (fun _ => ?_) (fun z => absurd z (by omega)) (fun z => absurd z (by omega)) (fun z => absurd z (by omega)) (fun z => absurd z (by omega))
            refine ih m2 ⟨x + 1, by omega, by omega, f2, fun o ho => ?_, fun o a b => g2 o a b⟩
            by_cases hox : o = x
            · subst hox
              have c := a_con T3 W3 (o : Int) w
              rw [g3, ← hS']; omega
            · exact g1 o (by omega)
          · rintro i m2 hi ⟨y, rfl, hy, f2, g1, g2, g3⟩ ih2
            have t2 := (t0.fr f2 (by omega)).1
            have b1 := a_cnt_in (q := (x : Int)) T3 W3 n (Nat.le_refl n)
            have b2 := a_cnt_in (q := (x : Int)) T3 Vw y hy
            have b3 := a_cnt_in (q := (x : Int)) T3 Vw (y + 1) (by omega)
            simp only [g_s] at b3
            refine bkX12_tax_108 (P2 := fun r m' => m' = m2 ∧ r = a_cnt (a_bells n T A w) x y) (fun z => absurd z (by omega)) (fun z => absurd z (by omega)) (fun _ => by omega) (fun _ => sp_shareOf (r0.fr f2 (by omega)) T3 Vw (by omega)) ?_ ?_
            · rintro _ r3 m3 ⟨rfl, rfl⟩ _
              rw [g3]
              exact ⟨q_in_of (by omega) (by omega), q_in_of (by omega) (by omega)⟩
            · rintro _ r3 m3 ⟨rfl, rfl⟩ _
              rw [g3]
              refine ih2 _ ⟨y + 1, by omega, by omega, f2.up rfl, fun o ho => ?_, fun o a b => ?_, ?_⟩
              · rw [q_up_i (by omega)]; exact g1 o ho
              · rw [q_up_i (by omega)]; exact g2 o a b
              · rw [q_up_s]; simp only [g_s]; omega
      -- bells
      have k3 : ∀ m0 : qm, q_fx x_tM m1 m0 → r_T m0 n T → r_W m0 n A → a_eq n (a_row (fun i => m0 205 (0 + i))) A → (∀ o : Nat, o < 7 → m0 219 o = g_s (a_cnt A o) n) → q_At yX12_tax cX12_tax 7 (some .int) 3 0 0 (qK (q_rb b) (fun r m2 => r = R ∧ q_fx x_tM m1 m2 ∧ r_W m2 n A ∧ i_rr m1 m2 (some (a_ls S 7)))) 79 [(2, 188), (0, (w : Int)), (0, 0), (0, 0), (4, 0), (4, 0), (4, 0)] [] (q_sh0, q_rb b, m0) := by
        intro m0 f0 t0 r0 y0 a0
        refine q_for1 (A := fun i (x : Int) m' => q_At yX12_tax cX12_tax 7 (some .int) 3 0 0 _ 79 [(2, 188), (0, (w : Int)), (0, x), (0, i), (4, 0), (4, 0), (4, 0)] [] (q_sh0, q_rb b, m')) (fun i x m' => ∃ y : Nat, i = y ∧ y ≤ w ∧ x = (a_bells n T A y).1.2.2 - A.1.2.2 ∧ r_W m' n (a_bells n T A y) ∧ q_fx x_Go m0 m') w ?_ ?_ 0 0 _ ⟨0, rfl, by omega, by simp [a_bells], r0, q_fx.rf⟩
        · rintro i x m' hi ⟨y, rfl, hy, rfl, r', f'⟩
          have : y = w := by omega
          subst this
          refine bkX12_tax_79 (P2 := fun _ _ => True) (fun _ => ?_) (fun z => absurd z (by omega)) (fun z => absurd z (by omega)) (fun z => absurd z (by omega))
          rw [hR]
          have : (fun i => m' 205 (0 + i)) = fun i => m0 205 (0 + i) := funext fun i => f' _ _ (by unfold x_Go; omega)
          exact k4 m' (f0.tr (f'.mono (fun c i z => by unfold x_Go at z; unfold x_tM; omega))) (t0.fr f' (by unfold x_Go; omega)) r' (by rw [this]; exact y0) (fun o ho => (f' _ _ (by unfold x_Go; omega)).trans (a0 o ho))
        · rintro i x m' hi ⟨y, rfl, hy, rfl, r', f'⟩ ih
          have Vy := W3.bells T3 y
          have Vy1 := W3.bells T3 (y + 1)
          have b1 := Vy.2.2.2.2
          have b2 := W3.2.2.2.2
          have b3 := Vy1.2.2.2.2
          refine bkX12_tax_79 (P2 := fun r m6 => r_W m6 n (a_bells n T A (y + 1)) ∧ r = (a_bells n T A (y + 1)).1.2.2 - (a_bells n T A y).1.2.2 ∧ q_fx x_Go m' m6) (fun z => absurd z (by omega)) (fun _ => sp_goBellW (t0.fr f' (by unfold x_Go; omega)) r' T3 Vy (by omega)) ?_ ?_
          · rintro _ r2 m2 ⟨r2', rfl, f2⟩ _
            exact ⟨q_in_of (by omega) (by omega), q_in_of (by omega) (by omega)⟩
          · rintro _ r2 m2 ⟨r2', rfl, f2⟩ _
            exact ih _ m2 ⟨y + 1, by omega, by omega, by omega, r2', f'.tr f2⟩
      -- counting
      refine q_for (A := fun i m' => q_At yX12_tax cX12_tax 7 (some .int) 3 0 0 _ 16 [(2, 188), (0, (w : Int)), (0, i), (4, 0), (4, 0), (4, 0), (4, 0)] [] (q_sh0, q_rb b, m')) (fun i m' => ∃ x : Nat, i = x ∧ x ≤ 7 ∧ q_fx (fun c i => c = 219 ∨ (c = 188 ∧ i = 17)) m1 m' ∧ ∀ o : Nat, o < x → m' 219 o = g_s (a_cnt A o) n) 7 ?_ ?_ 0 _ ⟨0, rfl, by omega, q_fx.rf.up (Or.inr ⟨rfl, rfl⟩), fun o h => absurd h (by omega)⟩
      · rintro i m' hi ⟨x, rfl, hx, f, h1⟩
        have : x = 7 := by omega
        subst this
        have W' := W2.fr f (by omega)
        refine bkX12_tax_16 (fun _ => sp_lay (N := 597) qs205 (by decide) (by decide) (by decide)) ?_ (fun z => absurd z (by omega)) (fun z => absurd z (by omega))
        rintro _ r2 m2 ⟨y2, f2⟩ _
        exact k3 m2 ((f.mono (fun c i z => by unfold x_tM; omega)).tr (f2.mono (fun c i z => by unfold x_tM; omega))) ((T2.fr f (by omega)).fr f2 (by omega)) (W'.fr f2 (by omega)) (W'.lay h9 l60 y2) (fun o ho => (f2 _ _ (by omega)).trans (h1 o ho))
      · rintro i m' hi ⟨x, rfl, hx, f, h1⟩ ih
        refine bkX12_tax_16 (P2 := fun _ _ => True) (fun z => absurd z (by omega)) (fun z => absurd z (by omega)) (fun _ => by omega) (fun _ => ?_)
        refine q_for (A := fun i m' => q_At yX12_tax cX12_tax 7 (some .int) 3 0 0 _ 31 [(2, 188), (0, (w : Int)), (0, (x : Int)), (0, i), (4, 0), (4, 0), (4, 0)] [] (q_sh0, q_rb b, m')) (fun i m' => ∃ y : Nat, i = y ∧ y ≤ n ∧ q_fx (fun c i => c = 219 ∨ (c = 188 ∧ i = 17)) m1 m' ∧ (∀ o : Nat, o < x → m' 219 o = g_s (a_cnt A o) n) ∧ m' 219 x = g_s (a_cnt A x) y) n ?_ ?_ 0 _ ⟨0, rfl, by omega, f.up (Or.inl rfl), fun o ho => by rw [q_up_i (by omega)]; exact h1 o ho, q_up_s⟩
        · rintro i m2 hi ⟨y, rfl, hy, f2, g1, g3⟩
          have : y = n := by omega
          subst this
          have t2 := (T2.fr f2 (by omega)).1
          refine bkX12_tax_31 (P2 := fun _ _ => True) (fun _ => q_in_of (by omega) (by omega)) (fun _ => ?_) (fun z => absurd z (by omega)) (fun z => absurd z (by omega)) (fun z => absurd z (by omega)) (fun z => absurd z (by omega))
          refine ih m2 ⟨x + 1, by omega, by omega, f2, fun o ho => ?_⟩
          by_cases hox : o = x
          · subst hox; exact g3
          · exact g1 o (by omega)
        · rintro i m2 hi ⟨y, rfl, hy, f2, g1, g3⟩ ih2
          have t2 := (T2.fr f2 (by omega)).1
          have b2 := a_cnt_in (q := (x : Int)) T3 W3 y hy
          have b3 := a_cnt_in (q := (x : Int)) T3 W3 (y + 1) (by omega)
          simp only [g_s] at b3
          refine bkX12_tax_31 (P2 := fun r m' => m' = m2 ∧ r = a_cnt A x y) (fun z => absurd z (by omega)) (fun z => absurd z (by omega)) (fun _ => by omega) (fun _ => sp_shareOf (W2.fr f2 (by omega)) T3 W3 (by omega)) ?_ ?_
          · rintro _ r3 m3 ⟨rfl, rfl⟩ _
            rw [g3]
            exact ⟨q_in_of (by omega) (by omega), q_in_of (by omega) (by omega)⟩
          · rintro _ r3 m3 ⟨rfl, rfl⟩ _
            rw [g3]
            refine ih2 _ ⟨y + 1, by omega, by omega, f2.up (Or.inl rfl), fun o ho => ?_, ?_⟩
            · rw [q_up_i (by omega)]; exact g1 o ho
            · rw [q_up_s]; simp only [g_s]
  · refine i_joinT hL I en hA (R := -1) (o := none) (fun l z => by cases z) ?_ ?_
    · refine q_enter (by decide +kernel) (by simp) (Nat.le_of_ble_eq_true rfl) ?_
      exact bkX11_tax_0 (P2 := fun _ _ => True) (fun z => absurd z ok) (fun z => absurd z ok) (fun _ => ⟨rfl, q_fx.rf, rfl, fun _ => rfl⟩)
    · intro m1 f1
      obtain ⟨T2, W2⟩ := K m1 f1
      refine q_enter (by decide +kernel) (by simp) (Nat.le_of_ble_eq_true rfl) ?_
      exact bkX12_tax_0 (fun z => absurd z ok) (fun _ => ⟨rfl, x_tM0, W2.fr (q_fx.rf.up (X := fun c i => c = 188 ∧ i = 17) ⟨rfl, rfl⟩) (by omega), i_g0r⟩)
