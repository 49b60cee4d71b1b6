/-! ===== the call bells ===== -/
abbrev x_bC (c i : Int) : Prop := x_St 5 c i ∨ x_Cr c i ∨ (c = 0 ∧ i = 16) ∨ c = 169
abbrev x_bM (c i : Int) : Prop := x_Go c i ∨ x_Mr c i ∨ (c = 188 ∧ (i = 16 ∨ i = 17)) ∨ c = 199
def a_brow (n : Nat) (A : a_W) : List Int := [g_s (fun j => if A.1.1 j = 0 then 1 else 0) n, g_s A.1.1 n]
theorem a_lv {B : Int} {n : Nat} {T : a_T} {A : a_W} (t : a_TV n T) (v : a_V B n T.1 A) {j : Int} (h0 : 0 ≤ j) (h1 : j < n) : 0 ≤ A.1.1 j ∧ A.1.1 j ≤ T.1 j ∧ T.1 j ≤ 60 := by
  have a := t.2 j h0 h1
  have b := v.1 j h0 h1
  omega
theorem c_W.lv {m : qm} {s : Int} {n : Nat} {A : a_W} (h : c_W m s n A) : f_en n (m (s + 3)) A.1.1 := fun j a b => (h.1 j a b).1.1
theorem r_W.lv {m : qm} {n : Nat} {A : a_W} (h : r_W m n A) : f_en n (m 190) A.1.1 := fun j a b => (h.1.1 j a b).1
theorem c_W.b9 {m : qm} {s : Int} {n : Nat} {A : a_W} (h : c_W m s n A) : m s 9 = 0 ∨ m s 9 = 1 := by
  rw [h.2.2.2.2.2]
  split
  · exact Or.inr rfl
  · exact Or.inl rfl
theorem cl_bells {b B : Int} {m : qm} {n : Nat} {T : a_T} {A : a_W} {P : a_P} (cT : c_T m n T) (cW : c_W m 5 n A) (cP : c_P m n P) (t : a_TV n T) (v : a_V B n T.1 A) (pv : a_PV B n T.1 P) (hB : B ≤ 1000000) (w : Nat) (hw : w ≤ 200) :
    q_Ev yX11_bells cX11_bells 4 (some .int) 5 0 0 [(2, 0), (0, (w : Int))] (q_sh0, q_rb b, m) (qK (q_rb b) (fun r m1 => r = (a_bells n T A w).1.2.2 - A.1.2.2 ∧ c_W m1 5 n (a_bells n T A w) ∧ c_P m1 n (if 0 < w then a_rem A P else P) ∧ i_rc m m1 (some (a_brow n (a_bells n T A w))) ∧ q_fx x_bC m m1)) := by
  have h9 := t.1
  have hc6 : ∀ j : Int, 0 ≤ j → j < n → T.1 j ≤ 60 := fun j a b => (t.2 j a b).2.1
  have main : ∀ m0 : qm, c_T m0 n T → c_W m0 5 n A → c_P m0 n (if 0 < w then a_rem A P else P) → q_fx x_Cr m m0 → q_At yX11_bells cX11_bells 4 (some .int) 5 0 0 (qK (q_rb b) (fun r m1 => r = (a_bells n T A w).1.2.2 - A.1.2.2 ∧ c_W m1 5 n (a_bells n T A w) ∧ c_P m1 n (if 0 < w then a_rem A P else P) ∧ i_rc m m1 (some (a_brow n (a_bells n T A w))) ∧ q_fx x_bC m m1)) 34 [(2, 0), (0, (w : Int)), (0, A.1.2.2), (0, 0)] [] (q_sh0, q_rb b, m0) := by
    intro m0 t0 w0 p0 f0
    refine q_for (A := fun i m' => q_At yX11_bells cX11_bells 4 (some .int) 5 0 0 _ 34 [(2, 0), (0, (w : Int)), (0, A.1.2.2), (0, i)] [] (q_sh0, q_rb b, m')) (fun i m' => ∃ x : Nat, i = x ∧ x ≤ w ∧ c_W m' 5 n (a_bells n T A x) ∧ q_fx (x_St 5) m0 m') w ?_ ?_ 0 m0 ⟨0, rfl, by omega, w0, q_fx.rf⟩
    · rintro i m' hi ⟨x, rfl, hx, w1, f1⟩
      have hxw : x = w := by omega
      subst hxw
      have vx := v.bells t x
      have t1 : c_T m' n T := t0.fr f1 (by unfold x_St; omega)
      have lvx : ∀ j : Int, 0 ≤ j → j < n → 0 ≤ (a_bells n T A x).1.1 j ∧ (a_bells n T A x).1.1 j ≤ 60 := fun j a b => by have := a_lv t vx a b; omega
      refine bkX11_bells_34 (P8 := fun _ _ => True) (fun _ => sp_empty n (by rw [q_up_c (by decide)]; exact t1.1) h9) ?_ (P5 := fun r3 m3 r5 m5 => m5 = q_up (q_up m3 169 (m3 0 16) r3) 0 16 (m3 0 16 + 1) ∧ r5 = g_s (m5 8) n) ?_ ?_ (P7 := fun _ _ r5 m5 r7 m7 => m7 = q_up (q_up m5 169 (m5 0 16) r5) 0 16 (m5 0 16 + 1) ∧ r7 = (a_bells n T A x).1.2.2) ?_ ?_ ?_ (fun z => absurd z (by omega)) (fun z => absurd z (by omega)) (fun z => absurd z (by omega))
      · rintro _ r3 m3 ⟨rfl, -⟩ _
        exact (i_rw.clear (m := m') q_fx.rf).len (by decide)
      · rintro _ r3 m3 ⟨rfl, rfl⟩ _
        refine (sp_levels n (by simp only [q_ups, Int.reduceEq, false_and, ite_false]; exact t1.1) h9 (fun j a b => ?_)).post (fun r m5 z => ⟨z.1, by rw [z.2, z.1]⟩)
        simp only [q_ups, Int.reduceEq, false_and, ite_false]
        rw [show m' 8 j = _ from w1.lv j a b]; exact lvx j a b
      · rintro _ r3 m3 ⟨rfl, -⟩ _ r5 m5 ⟨rfl, -⟩ _
        exact (i_rw.tell (i_rw.clear (m := m') q_fx.rf)).len (by simp)
      · rintro _ r3 m3 ⟨rfl, -⟩ _ r5 m5 ⟨rfl, -⟩ _
        refine (sp_lostW q_st5 (w1.fr (X := x_F) ?_ (by unfold w_z x_F; omega)) vx (by omega)).post (fun r m7 z => z)
        exact (i_rw.tell (v := r5) (i_rw.tell (v := r3) (i_rw.clear (m := m') q_fx.rf))).1
      · rintro _ r3 m3 _ _ r5 m5 _ _ r7 m7 ⟨-, rfl⟩ _
        have a1 := vx.2.2.2.2
        have a2 := v.2.2.2.2
        have a3 := (a_bells_be (n := n) (T := T) (A := A) x).1
        exact q_in_of (by omega) (by omega)
      · rintro _ r3 m3 ⟨rfl, rfl⟩ _ r5 m5 ⟨rfl, rfl⟩ _ r7 m7 ⟨rfl, rfl⟩ _
        have rw2 := i_rw.tell (v := g_s (q_up (q_up (q_up m' 0 16 0) 169 (q_up m' 0 16 0 0 16) (g_s (fun j => if q_up m' 0 16 0 8 j = 0 then 1 else 0) n)) 0 16 (q_up m' 0 16 0 0 16 + 1) 8) n) (i_rw.tell (v := g_s (fun j => if q_up m' 0 16 0 8 j = 0 then 1 else 0) n) (i_rw.clear (m := m') q_fx.rf))
        refine ⟨rfl, w1.fr rw2.1 (by unfold w_z x_F; omega), (p0.fr f1 (by unfold x_Cr x_St; omega)).fr rw2.1 (by unfold x_Cr x_F; omega), ?_, ((f0.mono (fun c i z => Or.inr (Or.inl z))).tr (f1.mono (fun c i z => Or.inl z))).tr ?_⟩
        · have e := rw2.rc
          have e1 : g_s (fun j => if q_up m' 0 16 0 8 j = 0 then (1 : Int) else 0) n = g_s (fun j => if (a_bells n T A x).1.1 j = 0 then 1 else 0) n := g_s_en (fun j a b => by
            have : q_up m' 0 16 0 8 j = (a_bells n T A x).1.1 j := (q_up_c (by decide)).trans (w1.lv j a b)
            simp only [this])
          have e2 : g_s (q_up (q_up (q_up m' 0 16 0) 169 (q_up m' 0 16 0 0 16) (g_s (fun j => if q_up m' 0 16 0 8 j = 0 then 1 else 0) n)) 0 16 (q_up m' 0 16 0 0 16 + 1) 8) n = g_s (a_bells n T A x).1.1 n := g_s_en (fun j a b => by
            simp only [q_ups, Int.reduceEq, false_and, ite_false]
            exact w1.lv j a b)
          unfold a_brow
          rw [← e1, ← e2]
          exact e
        · have g : q_fx (fun c i => (c = 0 ∧ i = 16) ∨ c = 169) m' _ := ((((q_fx.rf (m := m')).up (c := 0) (i := 16) (v := 0) (Or.inl ⟨rfl, rfl⟩)).up (c := 169) (i := q_up m' 0 16 0 0 16) (v := g_s (fun j => if q_up m' 0 16 0 8 j = 0 then 1 else 0) n) (Or.inr rfl)).up (c := 0) (i := 16) (v := q_up m' 0 16 0 0 16 + 1) (Or.inl ⟨rfl, rfl⟩))
          exact ((g.up (Or.inr rfl)).up (Or.inl ⟨rfl, rfl⟩)).mono (fun c i z => Or.inr (Or.inr z))
    · rintro i m' hi ⟨x, rfl, hx, w1, f1⟩ ih
      have vx := v.bells t x
      have t1 : c_T m' n T := t0.fr f1 (by unfold x_St; omega)
      refine bkX11_bells_34 (P3 := fun _ _ => True) (P5 := fun _ _ _ _ => True) (P7 := fun _ _ _ _ _ _ => True) (fun z => absurd z (by omega)) (fun z => absurd z (by omega)) (fun z => absurd z (by omega)) (fun z => absurd z (by omega)) (fun z => absurd z (by omega)) (fun z => absurd z (by omega)) (fun z => absurd z (by omega)) (fun _ => sp_strikeW q_st5 t1.q w1 t vx (by omega)) (fun _ _ _ _ _ => q_in_of (by omega) (by omega)) ?_
      rintro _ r2 m2 ⟨w2, -, f2⟩ _
      exact ih _ ⟨x + 1, by omega, by omega, w2, f1.tr f2⟩
  refine q_enter (by decide +kernel) (by simp) (Nat.le_of_ble_eq_true rfl) ?_
  refine bkX11_bells_0 (fun _ _ => sp_lostW q_st5 cW v (by omega)) ?_ (fun _ _ => sp_rememberC ⟨cP.2.2.2.1, cP.2.2.2.2.1⟩ (by rw [cP.1]; exact ⟨cP.2.1, cP.2.2.1⟩) cW.b9) (P5 := fun _ m4 r5 m5 => m5 = m4 ∧ r5 = A.1.2.2) ?_ ?_ (fun z => absurd (by omega) z)
  · rintro _ z r3 m3 ⟨rfl, rfl⟩ _
    refine main m3 cT cW ?_ q_fx.rf
    rw [if_neg (by omega)]; exact cP
  · rintro _ z r4 m4 ⟨u4, f4⟩ _
    exact (sp_lostW q_st5 (cW.fr f4 (by unfold w_z x_Cr; omega)) v (by omega)).post (fun r m7 z => z)
  · rintro _ z r4 m4 ⟨u4, f4⟩ _ r5 m5 ⟨rfl, rfl⟩ _
    refine main m5 (cT.fr f4 (by unfold x_Cr; omega)) (cW.fr f4 (by unfold w_z x_Cr; omega)) ?_ f4
    rw [if_pos (by omega)]
    exact cP.rem h9 hc6 cW v pv u4
theorem rf_bells {b B : Int} {m : qm} {n : Nat} {T : a_T} {A : a_W} {P : a_P} (cT : r_T m n T) (cW : r_W m n A) (cP : r_P m n P) (t : a_TV n T) (v : a_V B n T.1 A) (pv : a_PV B n T.1 P) (hB : B ≤ 1000000) (w : Nat) (hw : w ≤ 200) :
    q_Ev yX12_bells cX12_bells 5 (some .int) 3 0 0 [(2, 188), (0, (w : Int))] (q_sh0, q_rb b, m) (qK (q_rb b) (fun r m1 => r = (a_bells n T A w).1.2.2 - A.1.2.2 ∧ r_W m1 n (a_bells n T A w) ∧ r_P m1 n (if 0 < w then a_rem A P else P) ∧ i_rr m m1 (some (a_brow n (a_bells n T A w))) ∧ q_fx x_bM m m1)) := by
  have h9 := t.1
  have hc6 : ∀ j : Int, 0 ≤ j → j < n → T.1 j ≤ 60 := fun j a b => (t.2 j a b).2.1
  generalize hQ : (fun (r : Int) (m1 : qm) => r = (a_bells n T A w).1.2.2 - A.1.2.2 ∧ r_W m1 n (a_bells n T A w) ∧ r_P m1 n (if 0 < w then a_rem A P else P) ∧ i_rr m m1 (some (a_brow n (a_bells n T A w))) ∧ q_fx x_bM m m1) = Q
  have fin : ∀ m' : qm, r_T m' n T → r_W m' n (a_bells n T A w) → r_P m' n (if 0 < w then a_rem A P else P) → q_fx x_bM m m' → q_At yX12_bells cX12_bells 5 (some .int) 3 0 0 (qK (q_rb b) Q) 49 [(2, 188), (0, (w : Int)), (0, (a_bells n T A w).1.2.2 - A.1.2.2), (0, 0), (0, 0)] [] (q_sh0, q_rb b, m') := by
    intro m' t1 w1 p1 f1
    have vx := v.bells t w
    have lvx : ∀ j : Int, 0 ≤ j → j < n → 0 ≤ (a_bells n T A w).1.1 j ∧ (a_bells n T A w).1.1 j ≤ 60 := fun j a b => by have := a_lv t vx a b; omega
    have hb : ∀ x : Nat, 0 ≤ g_s (fun j => if (a_bells n T A w).1.1 j = 0 then (1 : Int) else 0) x ∧ g_s (fun j => if (a_bells n T A w).1.1 j = 0 then (1 : Int) else 0) x ≤ 1 * x := fun x => g_s_in (by decide) (fun j a b => by split <;> omega)
    refine q_for1 (A := fun i (y : Int) m0 => q_At yX12_bells cX12_bells 5 (some .int) 3 0 0 _ 49 [(2, 188), (0, (w : Int)), (0, (a_bells n T A w).1.2.2 - A.1.2.2), (0, y), (0, i)] [] (q_sh0, q_rb b, m0)) (fun i y m0 => ∃ x : Nat, i = x ∧ x ≤ n ∧ m0 = m' ∧ y = g_s (fun j => if (a_bells n T A w).1.1 j = 0 then 1 else 0) x) n ?_ ?_ 0 0 m' ⟨0, rfl, by omega, rfl, rfl⟩
    · rintro i y m0 hi ⟨x, rfl, hx, rfl, rfl⟩
      have hxn : x = n := by omega
      subst hxn
      have e0 := t1.1
      refine bkX12_bells_49 (fun _ => by decide) (fun _ => sp_sumOf x (by simp only [q_ups, Int.reduceEq, false_and, and_false, ite_false]; exact e0) h9 (fun j a b => ?_)) ?_ ?_ (fun z => absurd z (by omega)) (fun z => absurd z (by omega)) (fun z => absurd z (by omega)) (fun z => absurd z (by omega)) (fun z => absurd z (by omega))
      · simp only [q_ups, Int.reduceEq, false_and, ite_false]
        rw [w1.lv j a b]; exact lvx j a b
      · rintro _ r3 m3 ⟨rfl, -⟩ _
        simp [q_up]
      · rintro _ r3 m3 ⟨rfl, rfl⟩ _
        have rw1 := i_mw.clear (m := m0) (q_fx.rf (X := x_G))
        have e1 : q_up m0 188 16 0 188 16 = 0 := q_up_s
        have rw2 := i_mw.tell (v := g_s (fun j => if (a_bells x T A w).1.1 j = 0 then 1 else 0) x) rw1
        rw [e1] at rw2
        have e3 : g_s (q_up (q_up (q_up m0 188 16 0) 199 0 (g_s (fun j => if (a_bells x T A w).1.1 j = 0 then 1 else 0) x)) 188 16 (0 + 1) 190) x = g_s (a_bells x T A w).1.1 x := g_s_en (fun j a b => by
          simp only [q_ups, Int.reduceEq, false_and, ite_false]
          exact w1.lv j a b)
        rw [e3]
        have rw3 := i_mw.tell (v := g_s (a_bells x T A w).1.1 x) rw2
        rw [← hQ]
        refine ⟨rfl, w1.fr rw3.1 (by unfold x_G; omega), p1.fr rw3.1 (by unfold x_Mr x_G; omega), rw3.rr, f1.tr ?_⟩
        have g : q_fx (fun c i => (c = 188 ∧ i = 16) ∨ c = 199) m0 _ := ((((q_fx.rf (m := m0)).up (c := 188) (i := 16) (v := 0) (Or.inl ⟨rfl, rfl⟩)).up (c := 199) (i := 0) (v := g_s (fun j => if (a_bells x T A w).1.1 j = 0 then 1 else 0) x) (Or.inr rfl)).up (c := 188) (i := 16) (v := 0 + 1) (Or.inl ⟨rfl, rfl⟩))
        exact ((g.up (Or.inr rfl)).up (Or.inl ⟨rfl, rfl⟩)).mono (fun c i z => by unfold x_bM; omega)
    · rintro i y m0 hi ⟨x, rfl, hx, rfl, rfl⟩ ih
      have e0 := t1.1
      have b1 := hb x
      have e := w1.lv x (by omega) (by omega)
      refine bkX12_bells_49 (P3 := fun _ _ => True) (fun z => absurd z (by omega)) (fun z => absurd z (by omega)) (fun z => absurd z (by omega)) (fun z => absurd z (by omega)) (fun _ => by omega) (fun _ _ => ⟨q_in_of (by omega) (by omega), q_in_of (by omega) (by omega)⟩) (fun _ z => ?_) (fun _ _ => ⟨q_in_of (by omega) (by omega), q_in_of (by omega) (by omega)⟩) (fun _ z => ?_)
      · exact ih _ _ ⟨x + 1, by omega, by omega, rfl, by simp only [g_s]; rw [if_neg (by rw [← e]; exact z)]⟩
      · exact ih _ _ ⟨x + 1, by omega, by omega, rfl, by simp only [g_s]; rw [if_pos (by rw [← e]; exact z)]⟩
  have main : ∀ m0 : qm, r_T m0 n T → r_W m0 n A → r_P m0 n (if 0 < w then a_rem A P else P) → q_fx x_bM m m0 → q_At yX12_bells cX12_bells 5 (some .int) 3 0 0 (qK (q_rb b) Q) 26 [(2, 188), (0, (w : Int)), (0, 0), (0, 0), (4, 0)] [] (q_sh0, q_rb b, m0) := by
    intro m0 t0 w0 p0 f0
    refine q_for1 (A := fun i (y : Int) m' => q_At yX12_bells cX12_bells 5 (some .int) 3 0 0 _ 26 [(2, 188), (0, (w : Int)), (0, y), (0, i), (4, 0)] [] (q_sh0, q_rb b, m')) (fun i y m' => ∃ x : Nat, i = x ∧ x ≤ w ∧ y = (a_bells n T A x).1.2.2 - A.1.2.2 ∧ r_W m' n (a_bells n T A x) ∧ q_fx x_Go m0 m') w ?_ ?_ 0 0 m0 ⟨0, rfl, by omega, by simp [a_bells], w0, q_fx.rf⟩
    · rintro i y m' hi ⟨x, rfl, hx, rfl, w1, f1⟩
      have hxw : x = w := by omega
      subst hxw
      exact bkX12_bells_26 (P2 := fun _ _ => True) (fun _ => fin m' (t0.fr f1 (by unfold x_Go; omega)) w1 (p0.fr f1 (by unfold x_Mr x_Go; omega)) (f0.tr (f1.mono (fun c i z => Or.inl z)))) (fun z => absurd z (by omega)) (fun z => absurd z (by omega)) (fun z => absurd z (by omega))
    · rintro i y m' hi ⟨x, rfl, hx, rfl, w1, f1⟩ ih
      have vx := v.bells t x
      refine bkX12_bells_26 (fun z => absurd z (by omega)) (fun _ => sp_goBellW (t0.fr f1 (by unfold x_Go; omega)) w1 t vx (by omega)) ?_ ?_
      · rintro _ r2 m2 ⟨-, rfl, -⟩ _
        have a1 := (vx.bell t).2.2.2.2
        have a2 := v.2.2.2.2
        have a3 := (a_bells_be (n := n) (T := T) (A := A) x).1
        have a4 : (a_bell n T (a_bells n T A x)).2.2.2.1 = (a_bells n T A x).2.2.2.1 + 1 := rfl
        exact ⟨q_in_of (by omega) (by omega), q_in_of (by omega) (by omega)⟩
      · rintro _ r2 m2 ⟨w2, rfl, f2⟩ _
        refine ih _ _ ⟨x + 1, by omega, by omega, ?_, w2, f1.tr f2⟩
        show _ = (a_bell n T (a_bells n T A x)).1.2.2 - A.1.2.2
        omega
  have g0 : q_fx (fun c i => c = 188 ∧ i = 17) m (q_up m 188 17 0) := q_fx.rf.up ⟨rfl, rfl⟩
  have t0 := cT.fr g0 (by omega)
  have w0 := cW.fr g0 (by omega)
  have p0 := cP.fr g0 (by unfold x_Mr; omega)
  have f0 : q_fx x_bM m (q_up m 188 17 0) := g0.mono (fun c i z => by unfold x_bM; omega)
  refine q_enter (by decide +kernel) (by simp) (Nat.le_of_ble_eq_true rfl) ?_
  refine bkX12_bells_0 (fun _ z => main _ t0 w0 ?_ f0) (fun _ _ => sp_rememberM (by rw [p0.1]; exact ⟨p0.2.1, p0.2.2.1⟩)) ?_ (fun z => absurd (by omega) z)
  · rw [if_neg (by omega)]; exact p0
  · rintro _ z r4 m4 ⟨u4, f4⟩ _
    refine main m4 (t0.fr f4 (by unfold x_Mr; omega)) (w0.fr f4 (by unfold x_Mr; omega)) ?_ (f0.tr (f4.mono (fun c i z => Or.inr (Or.inl z))))
    rw [if_pos (by omega)]
    exact p0.rem h9 hc6 w0 v pv u4
