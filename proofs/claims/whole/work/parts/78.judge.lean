/-! ===== judge ===== -/
def a_jv (n : Nat) (T : a_T) (A : a_W) (v : Int) : Int := if v < 0 then -1 else a_can n T A (q_oidiv v 1000) (q_oirem (q_oidiv v 100) 10) (q_oirem v 100)
def a_jA (n : Nat) (T : a_T) (A : a_W) (v : Int) : a_W := if 0 < a_jv n T A v then a_pour T A (q_oidiv v 1000) (q_oirem (q_oidiv v 100) 10) (q_oirem v 100) else A
def a_js (x y z i : Int) : Int := if i = 0 then x else if i = 1 then y else z
def a_j (n : Nat) (T : a_T) (x y z : Int) : Nat → Int → Int → a_W → Int × Int × a_W
  | 0, _, d, A => (d, -2, A)
  | f + 1, i, d, A => if 0 < a_jv n T A (a_js x y z i) then a_j n T x y z f (i + 1) (d + a_jv n T A (a_js x y z i)) (a_jA n T A (a_js x y z i)) else (d, i, A)
theorem a_can_n {n : Nat} {T : a_T} {A : a_W} {x y w : Int} : a_can n T A x y w ≠ 0 := by
  unfold a_can
  split
  · split
    · decide
    · split
      · decide
      · omega
  · decide
theorem a_jv_pos {n : Nat} {T : a_T} {A : a_W} {v : Int} (h : 0 < a_jv n T A v) : 0 ≤ v ∧ 0 < a_can n T A (q_oidiv v 1000) (q_oirem (q_oidiv v 100) 10) (q_oirem v 100) ∧ a_jv n T A v = q_oirem v 100 ∧ a_jv n T A v ≤ A.1.1 (q_oidiv v 1000) := by
  unfold a_jv at h ⊢
  by_cases hv : v < 0
  · rw [if_pos hv] at h; exact absurd h (by decide)
  · rw [if_neg hv] at h ⊢
    have z := a_can_ok h
    exact ⟨by omega, h, z.2.2.2.2.2.2, by omega⟩
theorem a_V.j {B : Int} {n : Nat} {T : a_T} {A : a_W} (t : a_TV n T) (w : a_V B n T.1 A) {v : Int} : a_V B n T.1 (a_jA n T A v) := by
  unfold a_jA
  split
  · rename_i h
    obtain ⟨-, h, -⟩ := a_jv_pos h
    obtain ⟨hx, hy, hne, g1, g2, g3, -⟩ := a_can_ok h
    exact w.pour t hx hy hne g1 g2 g3
  · exact w
theorem sp_judgeOne {b B : Int} {m : qm} {n : Nat} {T : a_T} {A : a_W} (h1 : m 1 3 = n) (h2 : f_en n (m 2) T.1) (h3 : f_en n (m 3) T.2.1) (h : c_W m 14 n A) (t : a_TV n T) (w : a_V B n T.1 A) {v : Int} : q_Ev yX11_judgeOne cX11_judgeOne 6 (some .int) 4 0 0 [(2, 0), (0, v)] (q_sh0, q_rb b, m) (qK (q_rb b) (fun r m' => r = a_jv n T A v ∧ c_W m' 14 n (a_jA n T A v) ∧ q_fx (fun c i => 15 ≤ c ∧ c ≤ 21) m m')) := by
  refine q_enter (by decide +kernel) (by simp) (Nat.le_of_ble_eq_true rfl) ?_
  refine bkX11_judgeOne_0 (P4 := fun r2 m2 r4 m4 => c_W m4 14 n (a_jA n T A v) ∧ q_fx (fun c i => 15 ≤ c ∧ c ≤ 21) m m4) (fun _ => sp_canPour q_st14 h1 h2 h.lv t w) ?_ ?_ ?_ (fun hv => ?_)
  · rintro hv r2 m2 ⟨rfl, rfl⟩ _ hr
    have e : a_jv n T A v = a_can n T A (q_oidiv v 1000) (q_oirem (q_oidiv v 100) 10) (q_oirem v 100) := by unfold a_jv; rw [if_neg (by omega)]
    refine ⟨e.symm, ?_, q_fx.rf⟩
    unfold a_jA
    rw [if_neg (by rw [e]; omega)]
    exact h
  · rintro hv r2 m2 ⟨rfl, rfl⟩ _ hr
    have e : a_jv n T A v = a_can n T A (q_oidiv v 1000) (q_oirem (q_oidiv v 100) 10) (q_oirem v 100) := by unfold a_jv; rw [if_neg (by omega)]
    obtain ⟨hx, hy, hne, g1, g2, g3, -⟩ := a_can_ok hr
    refine (sp_makePouring q_st14 h1 h3 h t w hx hy hne g1 g2 g3).post (fun r m' z => ⟨?_, z.2.mono (fun c i y => by omega)⟩)
    unfold a_jA
    rw [if_pos (by rw [e]; exact hr)]
    exact z.1
  · rintro hv r2 m2 ⟨rfl, rfl⟩ _ hr r4 m4 h4 _
    have e : a_jv n T A v = a_can n T A (q_oidiv v 1000) (q_oirem (q_oidiv v 100) 10) (q_oirem v 100) := by unfold a_jv; rw [if_neg (by omega)]
    exact ⟨e.symm, h4⟩
  · refine ⟨?_, ?_, q_fx.rf⟩
    · unfold a_jv; rw [if_pos hv]
    · unfold a_jA a_jv; rw [if_pos hv, if_neg (by decide)]; exact h
theorem op_judge {LW : qm → Prop} (hL : i_Lf LW) {k : Nat} {b : Int} {m : qm} (I : i_I LW k m) (v x y z : Int) :
    q_Ev yX11_judge cX11_judge 9 (some .int) 5 0 0 [(2, 0), (0, v), (0, x), (0, y), (0, z)] (q_sh0, q_rb b, m) (qK (q_rb b) (fun r m1 => q_Ev yX12_judge cX12_judge 9 (some .int) 4 0 0 [(2, 188), (0, v), (0, x), (0, y), (0, z)] (q_sh0, q_rb b, m1) (i_O LW (k + 1) r))) := by
  obtain ⟨n, en, T1, T3, W1, W3, K⟩ := i_knowT I
  have h9 := T3.1
  have e0 := T1.1
  generalize hA : a_of m = A at W1 W3 K
  generalize hT : a_Tof m = T at T1 T3 W3 K
  have l60 : ∀ j : Int, 0 ≤ j → j < n → A.1.1 j ≤ 60 := fun j a b => by have := a_lv T3 W3 a b; omega
  by_cases ok : 0 ≤ v ∧ v ≤ 3
  · obtain ⟨w, rfl⟩ : ∃ w : Nat, v = w := ⟨v.toNat, by omega⟩
    generalize hR : a_j n T x y z w 0 0 A = R
    refine i_joinT hL I en hA (R := R.2.1) (o := some [R.1, g_s R.2.2.2.2.1 36]) (fun l z => by cases z; simp) ?_ ?_
    · refine q_enter (by decide +kernel) (by simp) (Nat.le_of_ble_eq_true rfl) ?_
      refine bkX11_judge_0 (fun z => absurd z (by omega)) (fun _ _ => sp_copyWater q_st14 q_st5 (by omega) W1.b9) (fun _ _ r3 m3 h3 _ => ?_) (fun _ z => absurd z (by omega))
      obtain ⟨w3, f3⟩ := h3
      have c3 := W1.cg h9 l60 w3
      have F3 : q_fx (fun c i => 14 ≤ c ∧ c ≤ 22) m m3 := f3.mono (fun c i z => by unfold w_z at z; omega)
      have dn : ∀ (m' : qm) (C : a_W) (d r i : Int), ((w : Int) ≤ i ∨ r ≠ -2) → R = (d, r, C) → c_W m' 14 n C → a_V (1500 * k) n T.1 C → q_fx (fun c i => 14 ≤ c ∧ c ≤ 22) m m' → q_At yX11_judge cX11_judge 9 (some .int) 5 0 0 (qK (q_rb b) (fun r m1 => r = R.2.1 ∧ q_fx x_tC m m1 ∧ i_rc m m1 (some [R.1, g_s R.2.2.2.2.1 36]))) 32 [(2, 0), (0, (w : Int)), (0, x), (0, y), (0, z), (0, d), (0, r), (0, i), (4, 0)] [] (q_sh0, q_rb b, m') := by
        intro m' C d r i hor hRe c1 v1 f1
        subst hRe
        have h1 := i_rw.tell (v := d) (i_rw.clear (m := m') (q_fx.rf (X := x_F)))
        have e : (q_up m' 0 16 0) 0 16 = 0 := q_up_s
        rw [e] at h1
        have c2 := c1.fr h1.1 (by unfold w_z x_F; omega)
        have dd : ∀ d', 0 ≤ d' → d' < 36 → 0 ≤ (q_up (q_up (q_up m' 0 16 0) 169 0 d) 0 16 (0 + 1)) (14 + 7) d' ∧ (q_up (q_up (q_up m' 0 16 0) 169 0 d) 0 16 (0 + 1)) (14 + 7) d' ≤ 999 := fun d' a b => by rw [c2.2.1 d' a b]; exact v1.2.2.1 d' a b
        have es : g_s ((q_up (q_up (q_up m' 0 16 0) 169 0 d) 0 16 (0 + 1)) (14 + 7)) 36 = g_s C.2.2.1 36 := g_s_en (fun d' a b => c2.2.1 d' a b)
        have l1 := h1.len (by simp)
        have fn : ∀ (r4 : Int) (m4 : qm), m4 = q_up (q_up (q_up m' 0 16 0) 169 0 d) 0 16 (0 + 1) ∧ r4 = g_s ((q_up (q_up (q_up m' 0 16 0) 169 0 d) 0 16 (0 + 1)) (14 + 7)) 36 → r = r ∧ q_fx x_tC m (q_up (q_up m4 169 (m4 0 16) r4) 0 16 (m4 0 16 + 1)) ∧ i_rc m (q_up (q_up m4 169 (m4 0 16) r4) 0 16 (m4 0 16 + 1)) (some [d, g_s C.2.2.1 36]) := by
          rintro r4 m4 ⟨rfl, rfl⟩
          rw [es]
          have h2 := i_rw.tell (v := g_s C.2.2.1 36) h1
          exact ⟨rfl, (f1.mono (fun c i z => by unfold x_tC; omega)).tr (h2.1.mono x_F_tC), h2.2.1, h2.2.2⟩
        exact bkX11_judge_32 (P13 := fun _ _ => True) (P15 := fun _ _ => True) (P17 := fun _ _ => True) (fun _ => by decide) (fun _ => sp_owedByAll q_st14 dd) (fun _ r4 m4 h4 _ => by rw [h4.1]; exact l1) (fun _ r4 m4 h4 _ => fn r4 m4 h4) (fun _ _ => by decide) (fun _ _ => sp_owedByAll q_st14 dd) (fun _ _ r4 m4 h4 _ => by rw [h4.1]; exact l1) (fun _ _ r4 m4 h4 _ => fn r4 m4 h4)
          (fun z1 z2 => absurd hor (by omega)) (fun z1 z2 => absurd hor (by omega)) (fun z1 z2 => absurd hor (by omega)) (fun z1 z2 => absurd hor (by omega)) (fun z1 z2 => absurd hor (by omega))
          (fun z1 z2 => absurd hor (by omega)) (fun z1 z2 => absurd hor (by omega)) (fun z1 z2 => absurd hor (by omega)) (fun z1 z2 => absurd hor (by omega)) (fun z1 z2 => absurd hor (by omega))
          (fun z1 z2 => absurd hor (by omega)) (fun z1 z2 => absurd hor (by omega)) (fun z1 z2 => absurd hor (by omega)) (fun z1 z2 => absurd hor (by omega)) (fun z1 z2 => absurd hor (by omega))
      have go : ∀ f : Nat, ∀ (m' : qm) (C : a_W) (d i : Int), 0 ≤ i → i + f = w → 0 ≤ d → d ≤ 60 * i → R = a_j n T x y z f i d C → c_W m' 14 n C → a_V (1500 * k) n T.1 C → q_fx (fun c i => 14 ≤ c ∧ c ≤ 22) m m' → q_At yX11_judge cX11_judge 9 (some .int) 5 0 0 (qK (q_rb b) (fun r m1 => r = R.2.1 ∧ q_fx x_tC m m1 ∧ i_rc m m1 (some [R.1, g_s R.2.2.2.2.1 36]))) 32 [(2, 0), (0, (w : Int)), (0, x), (0, y), (0, z), (0, d), (0, -2), (0, i), (4, 0)] [] (q_sh0, q_rb b, m') := by
        intro f
        induction f with
        | zero => exact fun m' C d i i0 hi d0 d1 he c1 v1 f1 => dn m' C d (-2) i (Or.inl (by omega)) he c1 v1 f1
        | succ f ih =>
          intro m' C d i i0 hi d0 d1 he c1 v1 f1
          simp only [a_j] at he
          have g1 : m' 1 3 = n := (f1 _ _ (by omega)).trans T1.1
          have g2 : f_en n (m' 2) T.1 := fun j a b => (f1 _ _ (by omega)).trans (T1.2.1 j a b)
          have g3 : f_en n (m' 3) T.2.1 := fun j a b => (f1 _ _ (by omega)).trans (T1.2.2.1 j a b)
          have b1 : 0 < a_jv n T C (a_js x y z i) → a_jv n T C (a_js x y z i) ≤ 60 := fun h => by
            have q := a_jv_pos h
            have q2 := a_can_ok q.2.1
            have q3 := a_lv T3 v1 q2.1.1 q2.1.2
            omega
          have ev : q_Ev yX11_judgeOne cX11_judgeOne 6 (some .int) 4 0 0 [(2, 0), (0, a_js x y z i)] (q_sh0, q_rb b, m') (qK (q_rb b) (fun r m2 => r = a_jv n T C (a_js x y z i) ∧ c_W m2 14 n (a_jA n T C (a_js x y z i)) ∧ q_fx (fun c i => 15 ≤ c ∧ c ≤ 21) m' m2)) := sp_judgeOne g1 g2 g3 c1 T3 v1
          have no : ∀ (r2 : Int) (m2 : qm), r2 = a_jv n T C (a_js x y z i) ∧ c_W m2 14 n (a_jA n T C (a_js x y z i)) ∧ q_fx (fun c i => 15 ≤ c ∧ c ≤ 21) m' m2 → r2 ≤ 0 → q_At yX11_judge cX11_judge 9 (some .int) 5 0 0 (qK (q_rb b) (fun r m1 => r = R.2.1 ∧ q_fx x_tC m m1 ∧ i_rc m m1 (some [R.1, g_s R.2.2.2.2.1 36]))) 32 [(2, 0), (0, (w : Int)), (0, x), (0, y), (0, z), (0, d), (0, i), (0, i + 1), (4, 0)] [] (q_sh0, q_rb b, m2) := by
            rintro r2 m2 ⟨rfl, c2, f2⟩ hr
            rw [if_neg (by omega)] at he
            have e2 : a_jA n T C (a_js x y z i) = C := by unfold a_jA; rw [if_neg (by omega)]
            rw [e2] at c2
            exact dn m2 C d i (i + 1) (Or.inr (by omega)) he c2 v1 (f1.tr (f2.mono (fun c i z => by omega)))
          have ys : ∀ (r2 : Int) (m2 : qm), r2 = a_jv n T C (a_js x y z i) ∧ c_W m2 14 n (a_jA n T C (a_js x y z i)) ∧ q_fx (fun c i => 15 ≤ c ∧ c ≤ 21) m' m2 → 0 < r2 → q_At yX11_judge cX11_judge 9 (some .int) 5 0 0 (qK (q_rb b) (fun r m1 => r = R.2.1 ∧ q_fx x_tC m m1 ∧ i_rc m m1 (some [R.1, g_s R.2.2.2.2.1 36]))) 32 [(2, 0), (0, (w : Int)), (0, x), (0, y), (0, z), (0, d + r2), (0, -2), (0, i + 1), (4, 0)] [] (q_sh0, q_rb b, m2) := by
            rintro r2 m2 ⟨rfl, c2, f2⟩ hr
            rw [if_pos hr] at he
            have := b1 hr
            exact ih m2 _ _ (i + 1) (by omega) (by omega) (by omega) (by omega) he c2 (v1.j T3) (f1.tr (f2.mono (fun c i z => by omega)))
          have bd : ∀ (r2 : Int), r2 = a_jv n T C (a_js x y z i) → 0 < r2 → q_in32 (d + r2) ∧ q_in32 (i + 1) := by
            rintro r2 rfl hr
            have := b1 hr
            exact ⟨q_in_of (by omega) (by omega), q_in_of (by omega) (by omega)⟩
          refine bkX11_judge_32 (P4 := fun _ _ => True) (P9 := fun _ _ => True) (P13 := fun r m2 => r = a_jv n T C (a_js x y z i) ∧ c_W m2 14 n (a_jA n T C (a_js x y z i)) ∧ q_fx (fun c i => 15 ≤ c ∧ c ≤ 21) m' m2) (P15 := fun r m2 => r = a_jv n T C (a_js x y z i) ∧ c_W m2 14 n (a_jA n T C (a_js x y z i)) ∧ q_fx (fun c i => 15 ≤ c ∧ c ≤ 21) m' m2) (P17 := fun r m2 => r = a_jv n T C (a_js x y z i) ∧ c_W m2 14 n (a_jA n T C (a_js x y z i)) ∧ q_fx (fun c i => 15 ≤ c ∧ c ≤ 21) m' m2)
            (fun z => absurd z (by omega)) (fun z => absurd z (by omega)) (fun z => absurd z (by omega)) (fun z => absurd z (by omega)) (fun _ z => absurd rfl z) (fun _ z => absurd rfl z) (fun _ z => absurd rfl z) (fun _ z => absurd rfl z)
            (fun _ _ z1 z2 => ?_) (fun _ _ _ _ _ _ _ _ _ => q_in_of (by omega) (by omega)) (fun _ _ _ _ r2 m2 h2 _ hr => no r2 m2 h2 hr) (fun _ _ _ _ r2 m2 h2 _ hr => bd r2 h2.1 hr) (fun _ _ _ _ r2 m2 h2 _ hr => ys r2 m2 h2 hr)
            (fun _ _ z1 z2 => ?_) (fun _ _ _ _ _ _ _ _ _ => q_in_of (by omega) (by omega)) (fun _ _ _ _ r2 m2 h2 _ hr => no r2 m2 h2 hr) (fun _ _ _ _ r2 m2 h2 _ hr => bd r2 h2.1 hr) (fun _ _ _ _ r2 m2 h2 _ hr => ys r2 m2 h2 hr)
            (fun _ _ z1 => ?_) (fun _ _ _ _ _ _ _ _ => q_in_of (by omega) (by omega)) (fun _ _ _ r2 m2 h2 _ hr => no r2 m2 h2 hr) (fun _ _ _ r2 m2 h2 _ hr => bd r2 h2.1 hr) (fun _ _ _ r2 m2 h2 _ hr => ys r2 m2 h2 hr)
          · have e : a_js x y z i = z := by unfold a_js; rw [if_neg z1, if_neg z2]
            rw [e] at ev ⊢; exact ev
          · have e : a_js x y z i = y := by unfold a_js; rw [if_neg z1, if_pos z2]
            rw [e] at ev ⊢; exact ev
          · have e : a_js x y z i = x := by unfold a_js; rw [if_pos z1]
            rw [e] at ev ⊢; exact ev
      exact go w m3 A 0 0 (by omega) (by omega) (by omega) (by omega) hR.symm c3 W3 F3
    · intro m1 f1
      obtain ⟨T2, W2⟩ := K m1 f1
      have e1 := T2.1
      have g0 : q_fx (fun c i => c = 188 ∧ i = 17) m1 (q_up m1 188 17 0) := q_fx.rf.up ⟨rfl, rfl⟩
      have W0 := W2.fr g0 (by omega)
      refine q_enter (by decide +kernel) (by simp) (Nat.le_of_ble_eq_true rfl) ?_
      refine bkX12_judge_0 (fun _ => sp_lay (N := 597) qs205 (by decide) (by decide) (by decide)) (fun _ r3 m3 h3 _ => ?_) (fun z => absurd ok z)
      obtain ⟨y3, f3⟩ := h3
      have a3 : a_eq n (a_row (fun i => m3 205 (0 + i))) A := W0.lay h9 l60 y3
      have W3' := W0.fr f3 (by omega)
      have T3' := (T2.fr g0 (by omega)).fr f3 (by omega)
      have F3 : q_fx x_tM m1 m3 := (g0.mono (fun c i z => by unfold x_tM; omega)).tr (f3.mono (fun c i z => by unfold x_tM; omega))
      have dn : ∀ (m' : qm) (C : a_W) (d r i : Int), ((w : Int) ≤ i ∨ r ≠ -2) → R = (d, r, C) → r_W m' n C → a_V (1500 * k) n T.1 C → q_fx (fun c i => c = 190 ∨ c = 196 ∨ c = 197) m3 m' → q_At yX12_judge cX12_judge 9 (some .int) 4 0 0 (qK (q_rb b) (fun r m2 => r = R.2.1 ∧ q_fx x_tM m1 m2 ∧ r_W m2 n A ∧ i_rr m1 m2 (some [R.1, g_s R.2.2.2.2.1 36]))) 35 [(2, 188), (0, (w : Int)), (0, x), (0, y), (0, z), (0, d), (0, r), (0, i), (4, 0)] [] (q_sh0, q_rb b, m') := by
        intro m' C d r i hor hRe c1 v1 f1
        subst hRe
        have es : g_s (m' 197) 36 = g_s C.2.2.1 36 := g_s_en (fun d' a b => c1.2.2.1 d' a b)
        have al : q_Ev yX12_allDebts cX12_allDebts 6 (some .int) 1 0 0 [(2, 188)] (q_sh0, q_rb b, m') (qK (q_rb b) (fun r m => m = m' ∧ r = g_s C.2.2.1 36)) := by
          rw [← es]
          exact sp_allDebts (fun d' a b => by rw [show m' 197 d' = _ from c1.2.2.1 d' a b]; exact v1.2.2.1 d' a b)
        have br : ∀ (r2 : Int) (m2 : qm), m2 = m' ∧ r2 = g_s C.2.2.1 36 → q_Ev yX12_bring cX12_bring 5 none 1 0 0 [(2, 188), (2, 205), (0, 0)] (q_sh0, q_rb b, m2) (qK (q_rb b) (fun _ m4 => r_W m4 n A ∧ q_fx x_tM m1 m4)) := by
          rintro r2 m2 ⟨rfl, rfl⟩
          refine (sp_bring (N := 597) qs205 (by decide) (by decide) (by decide)).post ?_
          rintro r m4 ⟨y2, f2⟩
          have : (fun i => m2 205 (0 + i)) = fun i => m3 205 (0 + i) := funext fun i => f1 _ _ (by omega)
          rw [this] at y2
          exact ⟨r_W.bring h9 l60 y2 a3, (F3.tr (f1.mono (fun c i z => by unfold x_tM; omega))).tr (f2.mono (fun c i z => by unfold x_tM; omega))⟩
        have fn : ∀ (r2 : Int) (m2 : qm), m2 = m' ∧ r2 = g_s C.2.2.1 36 → ∀ (m4 : qm), r_W m4 n A ∧ q_fx x_tM m1 m4 → r = r ∧ q_fx x_tM m1 (q_up (q_up (q_up (q_up (q_up m4 188 16 0) 199 0 d) 188 16 (0 + 1)) 199 (0 + 1) r2) 188 16 (0 + 1 + 1)) ∧ r_W (q_up (q_up (q_up (q_up (q_up m4 188 16 0) 199 0 d) 188 16 (0 + 1)) 199 (0 + 1) r2) 188 16 (0 + 1 + 1)) n A ∧ i_rr m1 (q_up (q_up (q_up (q_up (q_up m4 188 16 0) 199 0 d) 188 16 (0 + 1)) 199 (0 + 1) r2) 188 16 (0 + 1 + 1)) (some [d, g_s C.2.2.1 36]) := by
          rintro r2 m2 ⟨rfl, rfl⟩ m4 ⟨w4, f4⟩
          have h1 := i_mw.tell (v := d) (i_mw.clear (m := m4) (q_fx.rf (X := x_G)))
          rw [show (q_up m4 188 16 0) 188 16 = 0 from q_up_s] at h1
          have h2 := i_mw.tell (v := g_s C.2.2.1 36) h1
          rw [show (q_up (q_up (q_up m4 188 16 0) 199 0 d) 188 16 (0 + 1)) 188 16 = 0 + 1 from q_up_s] at h2
          exact ⟨rfl, f4.tr (h2.1.mono x_G_tM), w4.fr h2.1 (by unfold x_G; omega), h2.2.1, h2.2.2⟩
        exact bkX12_judge_35 (P14 := fun _ _ => True) (P16 := fun _ _ _ _ => True) (P18 := fun _ _ => True) (P20 := fun _ _ _ _ => True) (P22 := fun _ _ => True) (P24 := fun _ _ _ _ => True) (P3 := fun _ _ _ m4 => r_W m4 n A ∧ q_fx x_tM m1 m4) (P8 := fun _ _ _ m4 => r_W m4 n A ∧ q_fx x_tM m1 m4) (fun _ => al) (fun _ r2 m2 h2 _ => br r2 m2 h2) (fun _ _ _ _ _ _ _ _ _ => by decide) (fun _ r2 m2 h2 _ r4 m4 h4 _ => fn r2 m2 h2 m4 h4) (fun _ _ => al) (fun _ _ r2 m2 h2 _ => br r2 m2 h2) (fun _ _ _ _ _ _ _ _ _ _ => by decide) (fun _ _ r2 m2 h2 _ r4 m4 h4 _ => fn r2 m2 h2 m4 h4)
          (fun z1 z2 => absurd hor (by omega)) (fun z1 z2 => absurd hor (by omega)) (fun z1 z2 => absurd hor (by omega)) (fun z1 z2 => absurd hor (by omega)) (fun z1 z2 => absurd hor (by omega)) (fun z1 z2 => absurd hor (by omega)) (fun z1 z2 => absurd hor (by omega)) (fun z1 z2 => absurd hor (by omega))
          (fun z1 z2 => absurd hor (by omega)) (fun z1 z2 => absurd hor (by omega)) (fun z1 z2 => absurd hor (by omega)) (fun z1 z2 => absurd hor (by omega)) (fun z1 z2 => absurd hor (by omega)) (fun z1 z2 => absurd hor (by omega)) (fun z1 z2 => absurd hor (by omega)) (fun z1 z2 => absurd hor (by omega))
          (fun z1 z2 => absurd hor (by omega)) (fun z1 z2 => absurd hor (by omega)) (fun z1 z2 => absurd hor (by omega)) (fun z1 z2 => absurd hor (by omega)) (fun z1 z2 => absurd hor (by omega)) (fun z1 z2 => absurd hor (by omega)) (fun z1 z2 => absurd hor (by omega)) (fun z1 z2 => absurd hor (by omega))
      have go : ∀ f : Nat, ∀ (m' : qm) (C : a_W) (d i : Int), 0 ≤ i → i + f = w → 0 ≤ d → d ≤ 60 * i → R = a_j n T x y z f i d C → r_W m' n C → a_V (1500 * k) n T.1 C → q_fx (fun c i => c = 190 ∨ c = 196 ∨ c = 197) m3 m' → q_At yX12_judge cX12_judge 9 (some .int) 4 0 0 (qK (q_rb b) (fun r m2 => r = R.2.1 ∧ q_fx x_tM m1 m2 ∧ r_W m2 n A ∧ i_rr m1 m2 (some [R.1, g_s R.2.2.2.2.1 36]))) 35 [(2, 188), (0, (w : Int)), (0, x), (0, y), (0, z), (0, d), (0, -2), (0, i), (4, 0)] [] (q_sh0, q_rb b, m') := by
        intro f
        induction f with
        | zero => exact fun m' C d i i0 hi d0 d1 he c1 v1 f1 => dn m' C d (-2) i (Or.inl (by omega)) he c1 v1 f1
        | succ f ih =>
          intro m' C d i i0 hi d0 d1 he c1 v1 f1
          simp only [a_j] at he
          generalize hq : a_js x y z i = q at he
          have t' := T3'.fr f1 (by omega)
          have b1 : 0 < a_jv n T C q → a_jv n T C q ≤ 60 := fun h => by
            have q := a_jv_pos h
            have q2 := a_can_ok q.2.1
            have q3 := a_lv T3 v1 q2.1.1 q2.1.2
            omega
          have ng : q < 0 → q_At yX12_judge cX12_judge 9 (some .int) 4 0 0 (qK (q_rb b) (fun r m2 => r = R.2.1 ∧ q_fx x_tM m1 m2 ∧ r_W m2 n A ∧ i_rr m1 m2 (some [R.1, g_s R.2.2.2.2.1 36]))) 35 [(2, 188), (0, (w : Int)), (0, x), (0, y), (0, z), (0, d), (0, i), (0, i + 1), (4, 0)] [] (q_sh0, q_rb b, m') := fun hq0 => by
            rw [if_neg (by unfold a_jv; rw [if_pos hq0]; decide)] at he
            exact dn m' C d i (i + 1) (Or.inr (by omega)) he c1 v1 f1
          have ev : q_Ev yX12_refusal cX12_refusal 4 (some .int) 3 0 0 [(2, 188), (0, q_oidiv q 1000), (0, q_oirem (q_oidiv q 100) 10), (0, q_oirem q 100)] (q_sh0, q_rb b, m') (qK (q_rb b) (fun r m4 => m4 = m' ∧ r = if 0 < a_can n T C (q_oidiv q 1000) (q_oirem (q_oidiv q 100) 10) (q_oirem q 100) then 0 else a_can n T C (q_oidiv q 1000) (q_oirem (q_oidiv q 100) 10) (q_oirem q 100))) := sp_refusal t'.1 t'.2.1 c1.lv T3 v1
          have no : ∀ (r2 : Int) (m2 : qm), 0 ≤ q → (m2 = m' ∧ r2 = if 0 < a_can n T C (q_oidiv q 1000) (q_oirem (q_oidiv q 100) 10) (q_oirem q 100) then 0 else a_can n T C (q_oidiv q 1000) (q_oirem (q_oidiv q 100) 10) (q_oirem q 100)) → r2 < 0 → q_At yX12_judge cX12_judge 9 (some .int) 4 0 0 (qK (q_rb b) (fun r m2 => r = R.2.1 ∧ q_fx x_tM m1 m2 ∧ r_W m2 n A ∧ i_rr m1 m2 (some [R.1, g_s R.2.2.2.2.1 36]))) 35 [(2, 188), (0, (w : Int)), (0, x), (0, y), (0, z), (0, d), (0, i), (0, i + 1), (4, 0)] [] (q_sh0, q_rb b, m2) := by
            rintro r2 m2 hq0 ⟨rfl, rfl⟩ hr
            have e : a_jv n T C q = a_can n T C (q_oidiv q 1000) (q_oirem (q_oidiv q 100) 10) (q_oirem q 100) := by unfold a_jv; rw [if_neg (by omega)]
            have : ¬ 0 < a_jv n T C q := by rw [e]; intro h; rw [if_pos h] at hr; exact absurd hr (by decide)
            rw [if_neg this] at he
            exact dn m2 C d i (i + 1) (Or.inr (by omega)) he c1 v1 f1
          have can : ∀ (r2 : Int), 0 ≤ q → (r2 = if 0 < a_can n T C (q_oidiv q 1000) (q_oirem (q_oidiv q 100) 10) (q_oirem q 100) then 0 else a_can n T C (q_oidiv q 1000) (q_oirem (q_oidiv q 100) 10) (q_oirem q 100)) → 0 ≤ r2 → 0 < a_jv n T C q := by
            rintro r2 hq0 rfl hr
            have e : a_jv n T C q = a_can n T C (q_oidiv q 1000) (q_oirem (q_oidiv q 100) 10) (q_oirem q 100) := by unfold a_jv; rw [if_neg (by omega)]
            rw [e]
            by_cases h : 0 < a_can n T C (q_oidiv q 1000) (q_oirem (q_oidiv q 100) 10) (q_oirem q 100)
            · exact h
            · rw [if_neg h] at hr
              have := a_can_n (n := n) (T := T) (A := C) (x := q_oidiv q 1000) (y := q_oirem (q_oidiv q 100) 10) (w := q_oirem q 100)
              omega
          have mk : ∀ (r2 : Int) (m2 : qm), 0 ≤ q → (m2 = m' ∧ r2 = if 0 < a_can n T C (q_oidiv q 1000) (q_oirem (q_oidiv q 100) 10) (q_oirem q 100) then 0 else a_can n T C (q_oidiv q 1000) (q_oirem (q_oidiv q 100) 10) (q_oirem q 100)) → 0 ≤ r2 → q_Ev yX12_make cX12_make 6 none 3 0 0 [(2, 188), (0, q_oidiv q 1000), (0, q_oirem (q_oidiv q 100) 10), (0, q_oirem q 100)] (q_sh0, q_rb b, m2) (qK (q_rb b) (fun _ m4 => r_W m4 n (a_jA n T C q) ∧ q_fx (fun c i => c = 190 ∨ c = 196 ∨ c = 197) m' m4)) := by
            rintro r2 m2 hq0 ⟨rfl, hr2⟩ hr
            have hp := can r2 hq0 hr2 hr
            obtain ⟨-, hc, -⟩ := a_jv_pos hp
            obtain ⟨hx, hy, hne, g1, g2, g3, -⟩ := a_can_ok hc
            have e2 : a_jA n T C q = a_pour T C (q_oidiv q 1000) (q_oirem (q_oidiv q 100) 10) (q_oirem q 100) := by unfold a_jA; rw [if_pos hp]
            rw [e2]
            exact sp_make t' c1 T3 v1 hx hy hne g1 g2 g3
          have ys : ∀ (r2 : Int), 0 ≤ q → (r2 = if 0 < a_can n T C (q_oidiv q 1000) (q_oirem (q_oidiv q 100) 10) (q_oirem q 100) then 0 else a_can n T C (q_oidiv q 1000) (q_oirem (q_oidiv q 100) 10) (q_oirem q 100)) → 0 ≤ r2 → ∀ m4 : qm, r_W m4 n (a_jA n T C q) ∧ q_fx (fun c i => c = 190 ∨ c = 196 ∨ c = 197) m' m4 → (q_in32 (d + q_oirem q 100) ∧ q_in32 (i + 1)) ∧ q_At yX12_judge cX12_judge 9 (some .int) 4 0 0 (qK (q_rb b) (fun r m2 => r = R.2.1 ∧ q_fx x_tM m1 m2 ∧ r_W m2 n A ∧ i_rr m1 m2 (some [R.1, g_s R.2.2.2.2.1 36]))) 35 [(2, 188), (0, (w : Int)), (0, x), (0, y), (0, z), (0, d + q_oirem q 100), (0, -2), (0, i + 1), (4, 0)] [] (q_sh0, q_rb b, m4) := by
            rintro r2 hq0 hr2 hr m4 ⟨w4, f4⟩
            have hp := can r2 hq0 hr2 hr
            have e3 := (a_jv_pos hp).2.2.1
            have := b1 hp
            rw [if_pos hp] at he
            rw [← e3]
            exact ⟨⟨q_in_of (by omega) (by omega), q_in_of (by omega) (by omega)⟩, ih m4 _ _ (i + 1) (by omega) (by omega) (by omega) (by omega) he w4 (v1.j T3) (f1.tr f4)⟩
          have hin : q_in32 (i + 1) := q_in_of (by omega) (by omega)
          have e1 : i ≠ 0 → i ≠ 1 → z = q := fun z1 z2 => by rw [← hq]; unfold a_js; rw [if_neg z1, if_neg z2]
          have e2 : i ≠ 0 → i = 1 → y = q := fun z1 z2 => by rw [← hq]; unfold a_js; rw [if_neg z1, if_pos z2]
          have e3 : i = 0 → x = q := fun z1 => by rw [← hq]; unfold a_js; rw [if_pos z1]
          clear hq
          have h3 : (i ≠ 0 ∧ i ≠ 1) ∨ (i ≠ 0 ∧ i = 1) ∨ i = 0 := by omega
          rcases h3 with hi0 | hi0 | hi0
          · obtain rfl := e1 hi0.1 hi0.2
            exact bkX12_judge_35 (P2 := (fun _ _ => True)) (P3 := (fun _ _ _ _ => True)) (P7 := (fun _ _ => True)) (P8 := (fun _ _ _ _ => True)) (P14 := (fun r m2 => m2 = m' ∧ r = if 0 < a_can n T C (q_oidiv z 1000) (q_oirem (q_oidiv z 100) 10) (q_oirem z 100) then 0 else a_can n T C (q_oidiv z 1000) (q_oirem (q_oidiv z 100) 10) (q_oirem z 100))) (P16 := (fun _ _ _ m4 => r_W m4 n (a_jA n T C z) ∧ q_fx (fun c i => c = 190 ∨ c = 196 ∨ c = 197) m' m4)) (P18 := (fun _ _ => True)) (P20 := (fun _ _ _ _ => True)) (P22 := (fun _ _ => True)) (P24 := (fun _ _ _ _ => True)) 
              (fun z => absurd z (by omega)) (fun z => absurd z (by omega)) (fun z => absurd z (by omega)) (fun z => absurd z (by omega)) (fun _ z => absurd rfl z) (fun _ z => absurd rfl z) (fun _ z => absurd rfl z) (fun _ z => absurd rfl z)
              (fun _ _ _ _ _ => hin) (fun _ _ _ _ hn => ng hn) (fun _ _ _ _ _ => ev) (fun _ _ _ _ hp r2 m2 h2 _ hr => mk r2 m2 hp h2 hr) (fun _ _ _ _ hp r2 m2 h2 _ hr r4 m4 h4 _ => (ys r2 hp h2.2 hr m4 h4).1) (fun _ _ _ _ hp r2 m2 h2 _ hr r4 m4 h4 _ => (ys r2 hp h2.2 hr m4 h4).2) (fun _ _ _ _ _ _ _ _ _ _ => hin) (fun _ _ _ _ hp r2 m2 h2 _ hr => no r2 m2 hp h2 hr)
              (fun _ _ z1 z2 => absurd hi0 (by omega)) (fun _ _ z1 z2 => absurd hi0 (by omega)) (fun _ _ z1 z2 => absurd hi0 (by omega)) (fun _ _ z1 z2 => absurd hi0 (by omega)) (fun _ _ z1 z2 => absurd hi0 (by omega)) (fun _ _ z1 z2 => absurd hi0 (by omega)) (fun _ _ z1 z2 => absurd hi0 (by omega)) (fun _ _ z1 z2 => absurd hi0 (by omega))
              (fun _ _ z1 => absurd hi0 (by omega)) (fun _ _ z1 => absurd hi0 (by omega)) (fun _ _ z1 => absurd hi0 (by omega)) (fun _ _ z1 => absurd hi0 (by omega)) (fun _ _ z1 => absurd hi0 (by omega)) (fun _ _ z1 => absurd hi0 (by omega)) (fun _ _ z1 => absurd hi0 (by omega)) (fun _ _ z1 => absurd hi0 (by omega))
          · obtain rfl := e2 hi0.1 hi0.2
            exact bkX12_judge_35 (P2 := (fun _ _ => True)) (P3 := (fun _ _ _ _ => True)) (P7 := (fun _ _ => True)) (P8 := (fun _ _ _ _ => True)) (P14 := (fun _ _ => True)) (P16 := (fun _ _ _ _ => True)) (P18 := (fun r m2 => m2 = m' ∧ r = if 0 < a_can n T C (q_oidiv y 1000) (q_oirem (q_oidiv y 100) 10) (q_oirem y 100) then 0 else a_can n T C (q_oidiv y 1000) (q_oirem (q_oidiv y 100) 10) (q_oirem y 100))) (P20 := (fun _ _ _ m4 => r_W m4 n (a_jA n T C y) ∧ q_fx (fun c i => c = 190 ∨ c = 196 ∨ c = 197) m' m4)) (P22 := (fun _ _ => True)) (P24 := (fun _ _ _ _ => True)) 
              (fun z => absurd z (by omega)) (fun z => absurd z (by omega)) (fun z => absurd z (by omega)) (fun z => absurd z (by omega)) (fun _ z => absurd rfl z) (fun _ z => absurd rfl z) (fun _ z => absurd rfl z) (fun _ z => absurd rfl z)
              (fun _ _ z1 z2 => absurd hi0 (by omega)) (fun _ _ z1 z2 => absurd hi0 (by omega)) (fun _ _ z1 z2 => absurd hi0 (by omega)) (fun _ _ z1 z2 => absurd hi0 (by omega)) (fun _ _ z1 z2 => absurd hi0 (by omega)) (fun _ _ z1 z2 => absurd hi0 (by omega)) (fun _ _ z1 z2 => absurd hi0 (by omega)) (fun _ _ z1 z2 => absurd hi0 (by omega))
              (fun _ _ _ _ _ => hin) (fun _ _ _ _ hn => ng hn) (fun _ _ _ _ _ => ev) (fun _ _ _ _ hp r2 m2 h2 _ hr => mk r2 m2 hp h2 hr) (fun _ _ _ _ hp r2 m2 h2 _ hr r4 m4 h4 _ => (ys r2 hp h2.2 hr m4 h4).1) (fun _ _ _ _ hp r2 m2 h2 _ hr r4 m4 h4 _ => (ys r2 hp h2.2 hr m4 h4).2) (fun _ _ _ _ _ _ _ _ _ _ => hin) (fun _ _ _ _ hp r2 m2 h2 _ hr => no r2 m2 hp h2 hr)
              (fun _ _ z1 => absurd hi0 (by omega)) (fun _ _ z1 => absurd hi0 (by omega)) (fun _ _ z1 => absurd hi0 (by omega)) (fun _ _ z1 => absurd hi0 (by omega)) (fun _ _ z1 => absurd hi0 (by omega)) (fun _ _ z1 => absurd hi0 (by omega)) (fun _ _ z1 => absurd hi0 (by omega)) (fun _ _ z1 => absurd hi0 (by omega))
          · obtain rfl := e3 hi0
            exact bkX12_judge_35 (P2 := (fun _ _ => True)) (P3 := (fun _ _ _ _ => True)) (P7 := (fun _ _ => True)) (P8 := (fun _ _ _ _ => True)) (P14 := (fun _ _ => True)) (P16 := (fun _ _ _ _ => True)) (P18 := (fun _ _ => True)) (P20 := (fun _ _ _ _ => True)) (P22 := (fun r m2 => m2 = m' ∧ r = if 0 < a_can n T C (q_oidiv x 1000) (q_oirem (q_oidiv x 100) 10) (q_oirem x 100) then 0 else a_can n T C (q_oidiv x 1000) (q_oirem (q_oidiv x 100) 10) (q_oirem x 100))) (P24 := (fun _ _ _ m4 => r_W m4 n (a_jA n T C x) ∧ q_fx (fun c i => c = 190 ∨ c = 196 ∨ c = 197) m' m4)) 
              (fun z => absurd z (by omega)) (fun z => absurd z (by omega)) (fun z => absurd z (by omega)) (fun z => absurd z (by omega)) (fun _ z => absurd rfl z) (fun _ z => absurd rfl z) (fun _ z => absurd rfl z) (fun _ z => absurd rfl z)
              (fun _ _ z1 z2 => absurd hi0 (by omega)) (fun _ _ z1 z2 => absurd hi0 (by omega)) (fun _ _ z1 z2 => absurd hi0 (by omega)) (fun _ _ z1 z2 => absurd hi0 (by omega)) (fun _ _ z1 z2 => absurd hi0 (by omega)) (fun _ _ z1 z2 => absurd hi0 (by omega)) (fun _ _ z1 z2 => absurd hi0 (by omega)) (fun _ _ z1 z2 => absurd hi0 (by omega))
              (fun _ _ z1 z2 => absurd hi0 (by omega)) (fun _ _ z1 z2 => absurd hi0 (by omega)) (fun _ _ z1 z2 => absurd hi0 (by omega)) (fun _ _ z1 z2 => absurd hi0 (by omega)) (fun _ _ z1 z2 => absurd hi0 (by omega)) (fun _ _ z1 z2 => absurd hi0 (by omega)) (fun _ _ z1 z2 => absurd hi0 (by omega)) (fun _ _ z1 z2 => absurd hi0 (by omega))
              (fun _ _ _ _ => hin) (fun _ _ _ hn => ng hn) (fun _ _ _ _ => ev) (fun _ _ _ hp r2 m2 h2 _ hr => mk r2 m2 hp h2 hr) (fun _ _ _ hp r2 m2 h2 _ hr r4 m4 h4 _ => (ys r2 hp h2.2 hr m4 h4).1) (fun _ _ _ hp r2 m2 h2 _ hr r4 m4 h4 _ => (ys r2 hp h2.2 hr m4 h4).2) (fun _ _ _ _ _ _ _ _ _ => hin) (fun _ _ _ hp r2 m2 h2 _ hr => no r2 m2 hp h2 hr)
      exact go w m3 A 0 0 (by omega) (by omega) (by omega) (by omega) hR.symm W3' W3 q_fx.rf
  · refine i_joinT hL I en hA (R := -1) (o := none) (fun l z => by cases z) ?_ ?_
    · refine q_enter (by decide +kernel) (by simp) (Nat.le_of_ble_eq_true rfl) ?_
      exact bkX11_judge_0 (P3 := fun _ _ => True) (fun _ => ⟨rfl, q_fx.rf, rfl, fun _ => rfl⟩) (fun z1 z2 => absurd (by omega) ok) (fun z1 z2 => absurd (by omega) ok) (fun _ _ => ⟨rfl, q_fx.rf, rfl, fun _ => rfl⟩)
    · intro m1 f1
      obtain ⟨T2, W2⟩ := K m1 f1
      refine q_enter (by decide +kernel) (by simp) (Nat.le_of_ble_eq_true rfl) ?_
      exact bkX12_judge_0 (P2 := fun _ _ => True) (fun z => absurd z ok) (fun z => absurd z ok) (fun _ => ⟨rfl, x_tM0, W2.fr (q_fx.rf.up (X := fun c i => c = 188 ∧ i = 17) ⟨rfl, rfl⟩) (by omega), i_g0r⟩)
