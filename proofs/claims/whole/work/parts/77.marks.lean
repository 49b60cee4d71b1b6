/-! ===== marks ===== -/
def a_mk (A : a_W) (j x : Int) : a_W := (A.1, fun i k => if i < x then (if i = j then 1 else 0) else A.2.1 i k, A.2.2)
theorem a_V.mk {B : Int} {n : Nat} {c : Int → Int} {A : a_W} (v : a_V B n c A) {j x : Int} : a_V B n c (a_mk A j x) := by
  obtain ⟨a, r, h⟩ := v
  refine ⟨a, fun i k i0 i1 k0 k1 => ?_, h⟩
  show 0 ≤ (if i < x then (if i = j then (1 : Int) else 0) else A.2.1 i k) ∧ (if i < x then (if i = j then (1 : Int) else 0) else A.2.1 i k) ≤ 6
  split
  · split <;> decide
  · exact r i k i0 i1 k0 k1
theorem g_n_c1 : ∀ k : Nat, g_n (fun _ => 1) 1 k = k
  | 0 => rfl
  | k + 1 => by simp only [g_n]; rw [g_n_c1 k]; simp
theorem g_n_c0 : ∀ k : Nat, g_n (fun _ => 0) 1 k = 0
  | 0 => rfl
  | k + 1 => by simp only [g_n]; rw [g_n_c0 k]; simp
theorem g_s_c0 : ∀ k : Nat, g_s (fun _ => 0) k = 0
  | 0 => rfl
  | k + 1 => by simp only [g_s]; rw [g_s_c0 k]; simp
theorem a_mk_sum {B : Int} {n : Nat} {T : a_T} {A : a_W} (t : a_TV n T) (v : a_V B n T.1 A) {j : Int} (hj : 0 ≤ j ∧ j < n) : g_s (a_cnt (a_mk A j n) 1) n = A.1.1 j := by
  have e : ∀ i : Int, 0 ≤ i → i < n → a_cnt (a_mk A j n) 1 i = if i = j then A.1.1 j else 0 := fun i i0 i1 => by
    have l := a_lv t v i0 i1
    unfold a_cnt
    show g_n (fun k => if i < (n : Int) then (if i = j then (1 : Int) else 0) else A.2.1 i k) 1 (A.1.1 i).toNat = _
    by_cases h : i = j
    · subst h
      simp only [if_pos i1, if_true]
      rw [g_n_c1]; omega
    · simp only [if_pos i1, if_neg h]
      exact g_n_c0 _
  have h := g_s_up (f := fun _ => 0) (g := a_cnt (a_mk A j n) 1) (t := j) (n := n) hj.1 hj.2 (fun i a b c => by rw [e i a b, if_neg c])
  rw [h, g_s_c0, e j hj.1 hj.2, if_pos rfl]
  omega
theorem op_marks {LW : qm → Prop} (hL : i_Lf LW) {k : Nat} {b : Int} {m : qm} (I : i_I LW k m) (hk : k ≤ 600) (j : Int) :
    q_Ev yX11_marks cX11_marks 4 (some .int) 5 0 0 [(2, 0), (0, j)] (q_sh0, q_rb b, m) (qK (q_rb b) (fun r m1 => q_Ev yX12_marks cX12_marks 5 (some .int) 3 0 0 [(2, 188), (0, j)] (q_sh0, q_rb b, m1) (i_O LW (k + 1) r))) := by
  obtain ⟨n, en, T1, T3, W1, W3, K⟩ := i_knowT I
  have h9 := T3.1
  have e0 := T1.1
  generalize hA : a_of m = A at W1 W3 K
  generalize hT : a_Tof m = T at T1 T3 W3 K
  have l60 : ∀ j : Int, 0 ≤ j → j < n → A.1.1 j ≤ 60 := fun j a b => by have := a_lv T3 W3 a b; omega
  by_cases ok : 0 ≤ j ∧ j < n
  · have V0 : a_V (1500 * k) n T.1 (a_mk A j n) := W3.mk
    have sm0 := a_mk_sum T3 W3 ok
    generalize hC : a_mk A j n = C at V0 sm0
    have hC1 : C.1 = A.1 := by rw [← hC]; rfl
    obtain ⟨N, hN, q0, q1⟩ := f_rest (a_OK T3 V0) (ht := T.2.2.1) (fun j a b => by
      have z := T3.2 j a b
      exact ⟨by omega, by omega, z.2.2.2.2.2.2.2.2⟩)
    rw [← a_bells_1] at q0
    have q1' : ∀ v : Nat, v < N → a_mov n T.2.2.2.1 (a_bells n T C v).1.1 := fun v h => by rw [a_bells_1]; exact q1 v h
    have VN := V0.bells T3 N
    have con := a_con T3 V0 1 N
    generalize hG : a_cnt (a_bells n T C N) 1 = G at con
    have hG' : ∀ i, a_cnt (a_bells n T C N) 1 i = G i := fun i => by rw [← hG]
    have gin : ∀ y : Nat, y ≤ n → 0 ≤ g_s G y ∧ g_s G y ≤ 60 * y := fun y hy => by rw [← hG]; exact a_cnt_in T3 VN y hy
    have lj := a_lv T3 W3 ok.1 ok.2
    generalize hR : a_Sq n T C 1 N = R at con
    refine i_joinT hL I en hA (R := R) (o := some (a_ls G n)) (fun l z => by cases z; rw [a_ls_len]; omega) ?_ ?_
    · refine q_enter (by decide +kernel) (by simp) (Nat.le_of_ble_eq_true rfl) ?_
      refine bkX11_marks_0 (fun _ => sp_tryAsNow T1 W1 h9 l60) (fun _ r3 m3 h3 _ => ?_) (fun z => absurd (by omega) z)
      obtain ⟨w3, q3, s3, f3⟩ := h3
      have sb := W1.sand W3 (by omega) 1 (by decide) (by decide)
      have sb : 0 ≤ m 13 1 ∧ m 13 1 ≤ 400000000 := sb
      -- telling
      have fin : ∀ (m' : qm), c_W m' 14 n (a_bells n T C N) → q_fx (fun c i => 14 ≤ c ∧ c ≤ 25) m m' → m' 22 1 = m 13 1 + R → q_At yX11_marks cX11_marks 4 (some .int) 5 0 0 (qK (q_rb b) (fun r m1 => r = R ∧ q_fx x_tC m m1 ∧ i_rc m m1 (some (a_ls G n)))) 104 [(2, 0), (0, j), (0, m 13 1), (0, 0)] [] (q_sh0, q_rb b, q_up m' 0 16 0) := by
        intro m' c1 f1 s1
        refine q_for (A := fun i m' => q_At yX11_marks cX11_marks 4 (some .int) 5 0 0 _ 104 [(2, 0), (0, j), (0, m 13 1), (0, i)] [] (q_sh0, q_rb b, m')) (fun i m2 => ∃ y : Nat, i = y ∧ y ≤ n ∧ i_rw m' (a_ls G y) m2) n ?_ ?_ 0 _ ⟨0, rfl, by omega, i_rw.clear q_fx.rf⟩
        · rintro i m2 hi ⟨y, rfl, hy, h⟩
          have : y = n := by omega
          subst this
          have t2 : m2 1 3 = y := (h.1 _ _ (by unfold x_F; omega)).trans ((f1 _ _ (by omega)).trans e0)
          have s2 : m2 22 1 = m 13 1 + R := (h.1 _ _ (by unfold x_F; omega)).trans s1
          have g1 := gin y hy
          refine bkX11_marks_104 (P2 := fun _ _ => True) (fun _ => ⟨by decide, by rw [s2]; exact q_in_of (by omega) (by omega)⟩) (fun _ => ⟨by omega, (f1.mono (fun c i z => Or.inl ⟨z.1, Int.le_trans z.2 (by decide)⟩)).tr (h.1.mono x_F_tC), h.2.1, h.2.2⟩) (fun z => absurd z (by omega)) (fun z => absurd z (by omega)) (fun z => absurd z (by omega)) (fun z => absurd z (by omega))
        · rintro i m2 hi ⟨y, rfl, hy, h⟩ ih
          have t2 : m2 1 3 = n := (h.1 _ _ (by unfold x_F; omega)).trans ((f1 _ _ (by omega)).trans e0)
          have c2 := c1.fr h.1 (by unfold w_z x_F; omega)
          have ly := a_lv T3 VN (j := (y : Int)) (by omega) (by omega)
          have el : m2 17 y = (a_bells n T C N).1.1 y := c2.lv y (by omega) (by omega)
          refine bkX11_marks_104 (P2 := fun r m4 => m4 = m2 ∧ r = G y) (fun z => absurd z (by omega)) (fun z => absurd z (by omega)) (fun _ => by omega) (fun _ => ?_) ?_ ?_
          · rw [el, ← hG']
            exact sp_dropsW q_st14 c2 T3 VN ⟨by omega, by omega⟩ (by omega)
          · rintro _ r4 m4 ⟨rfl, rfl⟩ _
            exact ⟨h.len (by rw [a_ls_len]; omega), q_in_of (by omega) (by omega)⟩
          · rintro _ r4 m4 ⟨rfl, rfl⟩ _
            exact ih _ ⟨y + 1, by omega, by omega, by rw [a_ls_succ]; exact h.tell⟩
      -- bells
      have go : ∀ (m' : qm), c_W m' 14 n C → c_Q m' 14 n T → q_fx (fun c i => 14 ≤ c ∧ c ≤ 25) m m' → m' 22 1 = m 13 1 → q_At yX11_marks cX11_marks 4 (some .int) 5 0 0 (qK (q_rb b) (fun r m1 => r = R ∧ q_fx x_tC m m1 ∧ i_rc m m1 (some (a_ls G n)))) 63 [(2, 0), (0, j), (0, m 13 1), (0, 0)] [] (q_sh0, q_rb b, m') := by
        intro m0 d1 d2 d3 d4
        refine q_for (A := fun i m' => q_At yX11_marks cX11_marks 4 (some .int) 5 0 0 _ 63 [(2, 0), (0, j), (0, m 13 1), (0, i)] [] (q_sh0, q_rb b, m')) (fun i m' => ∃ x : Nat, i = x ∧ x ≤ N ∧ c_W m' 14 n (a_bells n T C x) ∧ c_Q m' 14 n T ∧ q_fx (fun c i => 14 ≤ c ∧ c ≤ 25) m m' ∧ m' 22 1 = m 13 1 + a_Sq n T C 1 x) N ?_ ?_ 0 m0 ⟨0, rfl, by omega, d1, d2, d3, by rw [d4]; simp [a_Sq]⟩
        · rintro i m' hi ⟨x, rfl, hx, c1, c2, c3, c4⟩
          have : x = N := by omega
          subst this
          refine bkX11_marks_63 (P3 := fun r4 m4 => m4 = m' ∧ ((r4 = 1 ∧ ¬ a_mov n T.2.2.2.1 (a_bells n T C x).1.1) ∨ (r4 = 0 ∧ a_mov n T.2.2.2.1 (a_bells n T C x).1.1))) (P6 := fun _ _ _ _ => True) (fun z => absurd z (by omega)) (fun _ => sp_isQuiet q_st14 c2.1 h9 c2.2.2.1 c1.lv) ?_ ?_ (fun _ _ _ _ _ _ _ _ _ _ => q_in_of (by omega) (by omega)) ?_
          · rintro _ r4 m4 ⟨rfl, -⟩ _ _
            exact fin m4 c1 c3 (by rw [c4, hR])
          · rintro _ r4 m4 ⟨rfl, h4⟩ _ z4
            rcases h4 with h4 | h4
            · exact absurd z4 (by omega)
            · exact absurd h4.2 q0
          · rintro _ r4 m4 ⟨rfl, h4⟩ _ z4
            rcases h4 with h4 | h4
            · exact absurd z4 (by omega)
            · exact absurd h4.2 q0
        · rintro i m' hi ⟨x, rfl, hx, c1, c2, c3, c4⟩ ih
          have vw := V0.bells T3 x
          refine bkX11_marks_63 (P3 := fun r4 m4 => m4 = m' ∧ ((r4 = 1 ∧ ¬ a_mov n T.2.2.2.1 (a_bells n T C x).1.1) ∨ (r4 = 0 ∧ a_mov n T.2.2.2.1 (a_bells n T C x).1.1))) (P6 := fun _ _ _ m6 => c_W m6 14 n (a_bells n T C (x + 1)) ∧ m6 22 1 = m 13 1 + a_Sq n T C 1 (x + 1) ∧ q_fx (x_St 14) m' m6) (fun z => absurd z (by omega)) (fun _ => sp_isQuiet q_st14 c2.1 h9 c2.2.2.1 c1.lv) ?_ ?_ (fun _ _ _ _ _ _ _ _ _ _ => q_in_of (by omega) (by omega)) ?_
          · rintro _ r4 m4 ⟨rfl, h4⟩ _ z4
            rcases h4 with h4 | h4
            · exact absurd (q1' x (by omega)) h4.2
            · exact absurd h4.1 z4
          · rintro _ r4 m4 ⟨rfl, h4⟩ _ z4
            refine (sp_strikeW q_st14 c2 c1 T3 vw (by omega)).post (fun r m6 z => ⟨z.1, ?_, z.2.2⟩)
            rw [show m6 22 1 = _ from z.2.1 1 (by decide) (by decide), show m4 (14 + 8) 1 = _ from c4]
            simp only [a_Sq]
            omega
          · rintro _ r4 m4 ⟨rfl, h4⟩ _ z4 r6 m6 ⟨c6, s6, f6⟩ _
            exact ih m6 ⟨x + 1, by omega, by omega, c6, c2.fr f6 (by unfold x_St; omega), c3.tr (f6.mono (fun c i z => by unfold x_St at z; omega)), s6⟩
      -- marking
      refine q_for (A := fun i m' => q_At yX11_marks cX11_marks 4 (some .int) 5 0 0 _ 16 [(2, 0), (0, j), (0, i), (4, 0)] [] (q_sh0, q_rb b, m')) (fun i m' => 0 ≤ i ∧ i ≤ n ∧ c_W m' 14 n (a_mk A j i) ∧ q_fx (fun c i => 15 ≤ c ∧ c ≤ 17) m3 m') n ?_ ?_ 0 m3 ⟨by omega, by omega, w3.en ⟨f_eq.rf, fun i k i0 i1 _ _ => by show A.2.1 i k = if i < 0 then _ else A.2.1 i k; rw [if_neg (by omega)], fun _ _ _ => rfl, rfl, rfl⟩, q_fx.rf⟩
      · rintro i m' hi ⟨i0, i1, c1, f1⟩
        have : i = n := by omega
        subst this
        have t2 : m' 1 3 = n := (f1 _ _ (by omega)).trans q3.1
        have s2 : m' 22 1 = m 13 1 := (f1 _ _ (by omega)).trans (s3 1 (by decide) (by decide))
        refine bkX11_marks_16 (P3 := fun _ _ => True) (P4 := fun _ _ => True) (fun _ => by decide) (fun _ => ?_) (fun z => absurd z (by omega)) (fun z => absurd z (by omega)) (fun z => absurd z (by omega)) (fun z => absurd z (by omega)) (fun z => absurd z (by omega)) (fun z => absurd z (by omega))
        rw [s2]
        exact go m' (by rw [← hC]; exact c1) (q3.fr f1 (by omega)) ((f3.mono (fun c i z => by omega)).tr (f1.mono (fun c i z => by omega))) s2
      · rintro i m' hi ⟨i0, i1, c1, f1⟩ ih
        have t2 : m' 1 3 = n := (f1 _ _ (by omega)).trans q3.1
        have li := a_lv T3 W3 i0 hi
        have stp : ∀ (v : Int) (m4 : qm), v = (if i = j then 1 else 0) → w_j m4 14 i (A.1.1 i) (fun _ => v) → q_fx (w_x 14 i) m' m4 → c_W m4 14 n (a_mk A j (i + 1)) ∧ q_fx (fun c i => 15 ≤ c ∧ c ≤ 17) m3 m4 := by
          intro v m4 hv w4 f4
          obtain ⟨a1, a2, a3, a4, a5, a6⟩ := c1
          have e8 : ∀ o, m4 (14 + 8) o = m' (14 + 8) o := fun o => f4 _ _ (by unfold w_x; omega)
          refine ⟨⟨fun x x0 x1 => ⟨?_, (f4 _ _ (by unfold w_x; omega)).trans (a1 x x0 x1).2⟩, fun d d0 d1 => (f4 _ _ (by unfold w_x; omega)).trans (a2 d d0 d1), (f4 _ _ (by unfold w_x; omega)).trans a3, fun o o0 o1 => by rw [e8]; exact a4 o o0 o1, by rw [e8, e8, e8, e8, e8, e8, e8]; exact a5, (f4 _ _ (by unfold w_x; omega)).trans a6⟩, f1.tr (f4.mono (fun c i z => by unfold w_x at z; omega))⟩
          by_cases hx : x = i
          · subst hx
            refine w4.en (fun k k0 k1 => ?_)
            show v = if x < x + 1 then (if x = j then (1 : Int) else 0) else A.2.1 x k
            rw [if_pos (show x < x + 1 by omega), hv]
          · refine ((a1 x x0 x1).1.fr (f4 _ _ (by unfold w_x; omega)) (f4 _ _ (by unfold w_x; omega)) (fun y y0 y1 => f4 _ _ (by unfold w_x; omega))).en (fun k k0 k1 => ?_)
            show (if x < i then (if x = j then (1 : Int) else 0) else A.2.1 x k) = if x < i + 1 then (if x = j then (1 : Int) else 0) else A.2.1 x k
            by_cases h : x < i
            · rw [if_pos h, if_pos (show x < i + 1 by omega)]
            · rw [if_neg h, if_neg (show ¬ x < i + 1 by omega)]
        refine bkX11_marks_16 (P3 := fun _ m4 => w_j m4 14 i (A.1.1 i) (fun _ => 0) ∧ q_fx (w_x 14 i) m' m4) (P4 := fun _ m4 => w_j m4 14 i (A.1.1 i) (fun _ => 1) ∧ q_fx (w_x 14 i) m' m4) (fun z => absurd z (by omega)) (fun z => absurd z (by omega)) (fun _ _ => sp_mark q_st14 (by omega) (c1.1 i i0 hi).1 (by omega)) (fun _ _ _ _ _ _ => q_in_of (by omega) (by omega)) ?_ (fun _ _ => sp_mark q_st14 (by omega) (c1.1 i i0 hi).1 (by omega)) (fun _ _ _ _ _ _ => q_in_of (by omega) (by omega)) ?_
        · rintro _ hne r4 m4 ⟨w4, f4⟩ _
          exact ih m4 ⟨by omega, by omega, stp 0 m4 (by rw [if_neg hne]) w4 f4⟩
        · rintro _ he r4 m4 ⟨w4, f4⟩ _
          exact ih m4 ⟨by omega, by omega, stp 1 m4 (by rw [if_pos he]) w4 f4⟩
    · intro m1 f1
      obtain ⟨T2, W2⟩ := K m1 f1
      have e1 := T2.1
      have g0 : q_fx (fun c i => c = 188 ∧ i = 17) m1 (q_up m1 188 17 0) := q_fx.rf.up ⟨rfl, rfl⟩
      have W0 := W2.fr g0 (by omega)
      refine q_enter (by decide +kernel) (by simp) (Nat.le_of_ble_eq_true rfl) ?_
      refine bkX12_marks_0 (q_in_of (by omega) (by omega)) (fun _ => sp_lay (N := 597) qs205 (by decide) (by decide) (by decide)) (fun _ r3 m3 h3 _ => ?_) (fun z => absurd (by omega) z)
      obtain ⟨y3, f3⟩ := h3
      have a3 : a_eq n (a_row (fun i => m3 205 (0 + i))) A := W0.lay h9 l60 y3
      have W3' := W0.fr f3 (by omega)
      have T3' := (T2.fr g0 (by omega)).fr f3 (by omega)
      have F3 : q_fx x_tM m1 m3 := (g0.mono (fun c i z => by unfold x_tM; omega)).tr (f3.mono (fun c i z => by unfold x_tM; omega))
      have gN := gin n (Nat.le_refl n)
      -- telling
      have fin : ∀ m0 : qm, q_fx (fun c i => c = 196 ∨ x_Go c i) m3 m0 → r_W m0 n (a_bells n T C N) → q_At yX12_marks cX12_marks 5 (some .int) 3 0 0 (qK (q_rb b) (fun r m2 => r = R ∧ q_fx x_tM m1 m2 ∧ r_W m2 n A ∧ i_rr m1 m2 (some (a_ls G n)))) 87 [(2, 188), (0, j), (0, A.1.1 j), (0, 0), (4, 0)] [] (q_sh0, q_rb b, q_up m0 188 16 0) := by
        intro m0 f0 r0
        refine q_for1 (A := fun i (x : Int) m' => q_At yX12_marks cX12_marks 5 (some .int) 3 0 0 _ 87 [(2, 188), (0, j), (0, x), (0, i), (4, 0)] [] (q_sh0, q_rb b, m')) (fun i x m' => ∃ y : Nat, i = y ∧ y ≤ n ∧ x = A.1.1 j - g_s G y ∧ i_mw m0 (a_ls G y) m') n ?_ ?_ 0 (A.1.1 j) _ ⟨0, rfl, by omega, by simp [g_s], i_mw.clear q_fx.rf⟩
        · rintro i x m' hi ⟨y, rfl, hy, rfl, h⟩
          have : y = n := by omega
          subst this
          have t2 := ((T3'.fr f0 (by unfold x_Go; omega)).fr h.1 (by unfold x_G; omega)).1
          refine bkX12_marks_87 (P3 := fun _ _ => True) (fun _ => sp_bring (N := 597) qs205 (by decide) (by decide) (by decide)) ?_ (fun z => absurd z (by omega)) (fun z => absurd z (by omega)) (fun z => absurd z (by omega))
          rintro _ r2 m2 ⟨y2, f2⟩ _
          have : (fun i => m' 205 (0 + i)) = fun i => m3 205 (0 + i) := funext fun i => (h.1 _ _ (by unfold x_G; omega)).trans (f0 _ _ (by unfold x_Go; omega))
          rw [this] at y2
          refine ⟨by omega, ((F3.tr (f0.mono (fun c i z => by unfold x_Go at z; unfold x_tM; omega))).tr (h.1.mono x_G_tM)).tr (f2.mono (fun c i z => by unfold x_tM; omega)), r_W.bring h9 l60 y2 a3, ?_, fun i hi => ?_⟩
          · rw [f2 _ _ (by omega)]; exact h.2.1
          · rw [f2 _ _ (by omega)]; exact h.2.2 i hi
        · rintro i x m' hi ⟨y, rfl, hy, rfl, h⟩ ih
          have t2 := ((T3'.fr f0 (by unfold x_Go; omega)).fr h.1 (by unfold x_G; omega)).1
          have b1 := gin y hy
          have b2 := gin (y + 1) (by omega)
          simp only [g_s] at b2
          refine bkX12_marks_87 (P2 := fun _ _ => True) (P3 := fun r m4 => m4 = m' ∧ r = G y) (fun z => absurd z (by omega)) (fun z => absurd z (by omega)) (fun _ => ?_) ?_ ?_
          · rw [← hG']
            exact sp_shareOf (r0.fr h.1 (by unfold x_G; omega)) T3 VN ⟨by omega, by omega⟩
          · rintro _ r4 m4 ⟨rfl, rfl⟩ _
            exact ⟨h.len (by rw [a_ls_len]; omega), q_in_of (by omega) (by omega), q_in_of (by omega) (by omega)⟩
          · rintro _ r4 m4 ⟨rfl, rfl⟩ _
            exact ih _ _ ⟨y + 1, by omega, by omega, by simp only [g_s]; omega, by rw [a_ls_succ]; exact h.tell⟩
      -- bells
      have go : ∀ d : Nat, ∀ (x : Nat) (m0 : qm), x + d = N → q_fx (fun c i => c = 196 ∨ x_Go c i) m3 m0 → r_W m0 n (a_bells n T C x) → q_At yX12_marks cX12_marks 5 (some .int) 3 0 0 (qK (q_rb b) (fun r m2 => r = R ∧ q_fx x_tM m1 m2 ∧ r_W m2 n A ∧ i_rr m1 m2 (some (a_ls G n)))) 65 [(2, 188), (0, j), (0, A.1.1 j), (4, 0), (4, 0)] [] (q_sh0, q_rb b, m0) := by
        intro d
        induction d with
        | zero =>
          intro x m0 hx f0 r0
          have : x = N := by omega
          subst this
          have t0 := T3'.fr f0 (by unfold x_Go; omega)
          refine bkX12_marks_65 (sp_isMovingNow t0.1 h9 t0.2.2.2.2.1 r0.lv) (P3 := fun _ _ _ _ => True) ?_ ?_ ?_
          · rintro r4 m4 ⟨rfl, -⟩ _ _
            exact fin m4 f0 r0
          · rintro r4 m4 ⟨rfl, h4⟩ _ z4
            rcases h4 with h4 | h4
            · exact absurd h4.1 z4
            · exact absurd h4.2 q0
          · rintro r4 m4 ⟨rfl, h4⟩ _ z4
            rcases h4 with h4 | h4
            · exact absurd h4.1 z4
            · exact absurd h4.2 q0
        | succ d ih =>
          intro x m0 hx f0 r0
          have t0 := T3'.fr f0 (by unfold x_Go; omega)
          have vw := V0.bells T3 x
          refine bkX12_marks_65 (sp_isMovingNow t0.1 h9 t0.2.2.2.2.1 r0.lv) (P3 := fun _ _ _ m6 => r_W m6 n (a_bells n T C (x + 1)) ∧ q_fx x_Go m0 m6) ?_ ?_ ?_
          · rintro r4 m4 ⟨rfl, h4⟩ _ z4
            rcases h4 with h4 | h4
            · exact absurd (q1' x (by omega)) h4.2
            · exact absurd z4 (by omega)
          · rintro r4 m4 ⟨rfl, h4⟩ _ z4
            exact (sp_goBellW t0 r0 T3 vw (by omega)).post (fun r m6 z => ⟨z.1, z.2.2⟩)
          · rintro r4 m4 ⟨rfl, h4⟩ _ z4 r6 m6 ⟨r6', f6⟩ _
            exact ih (x + 1) m6 (by omega) (f0.tr (f6.mono (fun c i z => Or.inr z))) r6'
      -- marking
      refine q_for (A := fun i m' => q_At yX12_marks cX12_marks 5 (some .int) 3 0 0 _ 26 [(2, 188), (0, j), (0, i), (4, 0), (4, 0)] [] (q_sh0, q_rb b, m')) (fun i m' => 0 ≤ i ∧ i ≤ 540 ∧ q_fx (fun c i => c = 196) m3 m' ∧ ∀ x : Int, 0 ≤ x → x < i → m' 196 x = if x / 60 = j then 1 else 0) 540 ?_ ?_ 0 m3 ⟨by omega, by omega, q_fx.rf, fun x a b => absurd a (by omega)⟩
      · rintro i m' hi ⟨i0, i1, f, h⟩
        have : i = 540 := by omega
        subst this
        have ej : m' 190 j = A.1.1 j := (f _ _ (by omega)).trans (W3'.lv j ok.1 ok.2)
        refine bkX12_marks_26 (fun _ => by omega) (fun _ => ?_) (fun z => absurd z (by omega)) (fun z => absurd z (by omega)) (fun z => absurd z (by omega)) (fun z => absurd z (by omega))
        rw [ej]
        refine go N 0 m' (by omega) (f.mono (fun c i z => Or.inl z)) ?_
        obtain ⟨w1, w2, w5, w6, w7⟩ := W3'
        have el : ∀ c i, c ≠ 196 → m' c i = m3 c i := fun c i hc => f c i hc
        refine ⟨⟨fun x x0 x1 => ⟨?_, ?_⟩, ?_⟩, fun x y x0 x1 y0 y1 => ?_, fun d d0 d1 => ?_, ?_, ?_⟩
        · show m' 190 x = C.1.1 x
          rw [el _ _ (by decide), hC1]; exact (w1.1 x x0 x1).1
        · show m' 195 x = C.1.2.1 x
          rw [el _ _ (by decide), hC1]; exact (w1.1 x x0 x1).2
        · show m' 188 11 = C.1.2.2
          rw [el _ _ (by decide), hC1]; exact w1.2
        · have y1 : y < m' 190 x := y1
          rw [el _ _ (by decide), show m3 190 x = _ from (w1.1 x x0 x1).1] at y1
          have l6 := l60 x x0 x1
          show m' 196 (60 * x + y) = C.2.1 x y
          rw [h _ (by omega) (by omega), ← hC, show (60 * x + y) / 60 = x by omega]
          show _ = if x < (n : Int) then (if x = j then (1 : Int) else 0) else A.2.1 x y
          rw [if_pos x1]
        · show m' 197 d = C.2.2.1 d
          rw [el _ _ (by decide), ← hC]; exact w5 d d0 d1
        · show m' 188 10 = C.2.2.2.1
          rw [el _ _ (by decide), ← hC]; exact w6
        · show m' 188 12 = C.2.2.2.2
          rw [el _ _ (by decide), ← hC]; exact w7
      · rintro i m' hi ⟨i0, i1, f, h⟩ ih
        have dv : q_oidiv i 60 = i / 60 := q_odiv_nn (by omega) (by omega) (by omega) (by omega)
        refine bkX12_marks_26 (fun z => absurd z (by omega)) (fun z => absurd z (by omega)) (fun _ _ => ⟨by omega, q_in_of (by omega) (by omega)⟩) (fun _ z => ?_) (fun _ _ => ⟨by omega, q_in_of (by omega) (by omega)⟩) (fun _ z => ?_)
        · rw [dv] at z
          refine ih _ ⟨by omega, by omega, f.up rfl, fun x a b => ?_⟩
          by_cases hx : x = i
          · subst hx; rw [q_up_s, if_neg z]
          · rw [q_up_i hx]; exact h x a (by omega)
        · rw [dv] at z
          refine ih _ ⟨by omega, by omega, f.up rfl, fun x a b => ?_⟩
          by_cases hx : x = i
          · subst hx; rw [q_up_s, if_pos z]
          · rw [q_up_i hx]; exact h x a (by omega)
  · refine i_joinT hL I en hA (R := -1) (o := none) (fun l z => by cases z) ?_ ?_
    · refine q_enter (by decide +kernel) (by simp) (Nat.le_of_ble_eq_true rfl) ?_
      exact bkX11_marks_0 (P2 := fun _ _ => True) (fun z => absurd (by omega) ok) (fun z => absurd (by omega) ok) (fun _ => ⟨rfl, q_fx.rf, rfl, fun _ => rfl⟩)
    · intro m1 f1
      obtain ⟨T2, W2⟩ := K m1 f1
      have e1 := T2.1
      refine q_enter (by decide +kernel) (by simp) (Nat.le_of_ble_eq_true rfl) ?_
      exact bkX12_marks_0 (P2 := fun _ _ => True) (q_in_of (by omega) (by omega)) (fun z => absurd (by omega) ok) (fun z => absurd (by omega) ok) (fun _ => ⟨rfl, x_tM0, W2.fr (q_fx.rf.up (X := fun c i => c = 188 ∧ i = 17) ⟨rfl, rfl⟩) (by omega), i_g0r⟩)
