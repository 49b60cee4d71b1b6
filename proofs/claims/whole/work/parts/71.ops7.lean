/-! ===== spring, and calls that only look at the water ===== -/
abbrev x_pM2 (c i : Int) : Prop := c = 190 ∨ c = 196 ∨ x_Mr c i ∨ (c = 188 ∧ i = 17)
abbrev a_sprok (n : Nat) (j v w : Int) : Prop := (0 ≤ j ∧ j < n) ∧ (0 ≤ v ∧ v ≤ 6) ∧ 1 ≤ w ∧ w ≤ 60
def a_sprc (T : a_T) (A : a_W) (j w : Int) : Int := min w (T.1 j - A.1.1 j)
theorem cl_spring {b B : Int} {m : qm} {n : Nat} {T : a_T} {A : a_W} {P : a_P} (cT : c_T m n T) (cW : c_W m 5 n A) (cP : c_P m n P) (t : a_TV n T) (v : a_V B n T.1 A) (pv : a_PV B n T.1 P) (j o w : Int) :
    q_Ev yX11_spring cX11_spring 6 (some .int) 3 0 0 [(2, 0), (0, j), (0, o), (0, w)] (q_sh0, q_rb b, m) (qK (q_rb b) (fun r m1 => (a_sprok n j o w → r = a_sprc T A j w ∧ c_W m1 5 n (a_spr A j o (a_sprc T A j w)) ∧ c_P m1 n (a_rem A P)) ∧ (¬ a_sprok n j o w → r = -1 ∧ c_W m1 5 n A ∧ c_P m1 n P) ∧ q_fx x_pC m m1)) := by
  have h9 := t.1
  have c1 := cT.1
  have hc6 : ∀ j : Int, 0 ≤ j → j < n → T.1 j ≤ 60 := fun j a b => (t.2 j a b).2.1
  have no : ∀ z : ¬ a_sprok n j o w, (a_sprok n j o w → (-1 : Int) = a_sprc T A j w ∧ c_W m 5 n (a_spr A j o (a_sprc T A j w)) ∧ c_P m n (a_rem A P)) ∧ (¬ a_sprok n j o w → (-1 : Int) = -1 ∧ c_W m 5 n A ∧ c_P m n P) ∧ q_fx x_pC m m := fun z => ⟨fun y => absurd y z, fun _ => ⟨rfl, cW, cP⟩, q_fx.rf⟩
  refine q_enter (by decide +kernel) (by simp) (Nat.le_of_ble_eq_true rfl) ?_
  refine bkX11_spring_0 (fun _ _ z => no (by omega)) (fun _ _ _ _ => sp_rememberC ⟨cP.2.2.2.1, cP.2.2.2.2.1⟩ (by rw [cP.1]; exact ⟨cP.2.1, cP.2.2.1⟩) cW.b9) ?_ ?_ (fun _ _ _ z => no (by omega)) (fun _ z => no (by omega)) (fun z => no (by omega))
  · rintro hj ho w1 w2 r5 m5 ⟨u5, f5⟩ _
    have a := a_lv t v (j := j) (by omega) (by omega)
    rw [f5 2 j (by unfold x_Cr; omega), f5 8 j (by unfold x_Cr; omega), cT.2.1 j (by omega) (by omega), show m 8 j = _ from cW.lv j (by omega) (by omega)]
    exact ⟨by omega, q_in_of (by omega) (by omega)⟩
  · rintro hj ho w1 w2 r5 m5 ⟨u5, f5⟩ _
    have ok : a_sprok n j o w := by omega
    have a := a_lv t v (j := j) (by omega) (by omega)
    rw [f5 2 j (by unfold x_Cr; omega), f5 8 j (by unfold x_Cr; omega), cT.2.1 j (by omega) (by omega), show m 8 j = _ from cW.lv j (by omega) (by omega)]
    have w5 := cW.fr f5 (by unfold w_z x_Cr; omega)
    have p5 := cP.rem h9 hc6 cW v pv u5
    show q_At _ _ _ _ _ _ _ _ _ [(2, 0), (0, j), (0, o), (0, w), (0, a_sprc T A j w), (0, 0)] _ _
    have hcm : 0 ≤ a_sprc T A j w ∧ a_sprc T A j w ≤ T.1 j - A.1.1 j := by unfold a_sprc; omega
    refine q_for (A := fun i m' => q_At yX11_spring cX11_spring 6 (some .int) 3 0 0 _ 53 [(2, 0), (0, j), (0, o), (0, w), (0, a_sprc T A j w), (0, i)] [] (q_sh0, q_rb b, m')) (fun i m' => 0 ≤ i ∧ i ≤ a_sprc T A j w ∧ w_j m' 5 j (A.1.1 j + i) (fun k => if A.1.1 j ≤ k then o else A.2.1 j k) ∧ q_fx (w_x 5 j) m5 m') (a_sprc T A j w) ?_ ?_ 0 m5 ⟨by omega, by omega, ?_, q_fx.rf⟩
    · rintro i m' hi ⟨i0, i1, a1, f⟩
      have : i = a_sprc T A j w := by omega
      subst this
      refine bkX11_spring_53 (P2 := fun _ _ => True) (fun _ => ⟨fun _ => ⟨rfl, ?_, p5.fr f (by unfold x_Cr w_x; omega)⟩, fun z => absurd ok z, (f5.mono (fun c i z => by unfold x_pC; exact Or.inr (Or.inr (Or.inr (Or.inr z))))).tr (f.mono (fun c i z => by unfold w_x at z; unfold x_pC; omega))⟩) (fun z => absurd z (by omega)) (fun z => absurd z (by omega)) (fun z => absurd z (by omega))
      obtain ⟨b1, b2, b3, b4, b5, b6⟩ := w5
      refine ⟨fun i i0 i1 => ⟨?_, (f _ _ (by unfold w_x; omega)).trans (b1 i i0 i1).2⟩, fun d d0 d1 => (f _ _ (by unfold w_x; omega)).trans (b2 d d0 d1), (f _ _ (by unfold w_x; omega)).trans b3, fun q q0 q1 => by rw [f _ _ (by unfold w_x; omega)]; exact b4 q q0 q1, ?_, (f _ _ (by unfold w_x; omega)).trans b6⟩
      · show w_j m' 5 i (if i = j then A.1.1 i + a_sprc T A j w else A.1.1 i) (fun k => if i = j ∧ A.1.1 j ≤ k then o else A.2.1 i k)
        by_cases hi : i = j
        · subst hi
          rw [if_pos rfl]
          refine a1.en (fun k k0 k1 => ?_)
          by_cases hk : A.1.1 i ≤ k
          · rw [if_pos hk, if_pos ⟨rfl, hk⟩]
          · rw [if_neg hk, if_neg (fun z => hk z.2)]
        · rw [if_neg hi]
          exact ((b1 i i0 i1).1.fx f hi).en (fun k k0 k1 => by rw [if_neg (fun z => hi z.1)])
      · rw [f _ _ (by unfold w_x; omega), f _ _ (by unfold w_x; omega), f _ _ (by unfold w_x; omega), f _ _ (by unfold w_x; omega), f _ _ (by unfold w_x; omega), f _ _ (by unfold w_x; omega), f _ _ (by unfold w_x; omega)]; exact b5
    · rintro i m' hi ⟨i0, i1, a1, f⟩ ih
      refine bkX11_spring_53 (fun z => absurd z (by omega)) (fun _ => sp_putBehind q_st5 (by omega) a1 (by omega)) (fun _ _ _ _ _ => q_in_of (by omega) (by omega)) ?_
      rintro _ r2 m2 ⟨s1, s2⟩ _
      refine ih _ ⟨by omega, by omega, ?_, f.tr s2⟩
      rw [show A.1.1 j + (i + 1) = A.1.1 j + i + 1 by omega]
      refine s1.en (fun k k0 k1 => ?_)
      by_cases hk : k = A.1.1 j + i
      · rw [if_pos hk, if_pos (by omega)]
      · rw [if_neg hk]
    · rw [Int.add_zero]
      exact (w5.1 j (by omega) (by omega)).1.en (fun k k0 k1 => by rw [if_neg (by omega)])
theorem rf_spring {b B : Int} {m : qm} {n : Nat} {T : a_T} {A : a_W} {P : a_P} (cT : r_T m n T) (cW : r_W m n A) (cP : r_P m n P) (t : a_TV n T) (v : a_V B n T.1 A) (pv : a_PV B n T.1 P) (j o w : Int) :
    q_Ev yX12_spring cX12_spring 6 (some .int) 3 0 0 [(2, 188), (0, j), (0, o), (0, w)] (q_sh0, q_rb b, m) (qK (q_rb b) (fun r m1 => (a_sprok n j o w → r = a_sprc T A j w ∧ r_W m1 n (a_spr A j o (a_sprc T A j w)) ∧ r_P m1 n (a_rem A P)) ∧ (¬ a_sprok n j o w → r = -1 ∧ r_W m1 n A ∧ r_P m1 n P) ∧ q_fx x_pM2 m m1)) := by
  have h9 := t.1
  have c1 := cT.1
  have hc6 : ∀ j : Int, 0 ≤ j → j < n → T.1 j ≤ 60 := fun j a b => (t.2 j a b).2.1
  have g0 : q_fx (fun c i => c = 188 ∧ i = 17) m (q_up m 188 17 0) := q_fx.rf.up ⟨rfl, rfl⟩
  have t0 := cT.fr g0 (by omega)
  have w0 := cW.fr g0 (by omega)
  have p0 := cP.fr g0 (by unfold x_Mr; omega)
  have f0 : q_fx x_pM2 m (q_up m 188 17 0) := g0.mono (fun c i z => by unfold x_pM2; omega)
  have no : ∀ z : ¬ a_sprok n j o w, (a_sprok n j o w → (-1 : Int) = a_sprc T A j w ∧ r_W (q_up m 188 17 0) n (a_spr A j o (a_sprc T A j w)) ∧ r_P (q_up m 188 17 0) n (a_rem A P)) ∧ (¬ a_sprok n j o w → (-1 : Int) = -1 ∧ r_W (q_up m 188 17 0) n A ∧ r_P (q_up m 188 17 0) n P) ∧ q_fx x_pM2 m (q_up m 188 17 0) := fun z => ⟨fun y => absurd y z, fun _ => ⟨rfl, w0, p0⟩, f0⟩
  refine q_enter (by decide +kernel) (by simp) (Nat.le_of_ble_eq_true rfl) ?_
  refine bkX12_spring_0 (q_in_of (by omega) (by omega)) (fun _ _ _ => sp_rememberM (by rw [p0.1]; exact ⟨p0.2.1, p0.2.2.1⟩)) ?_ ?_ (fun _ _ z => no (by omega)) (fun _ z => no (by omega)) (fun z => no (by omega))
  · rintro hj ho hw r5 m5 ⟨u5, f5⟩ _
    have a := a_lv t v (j := j) (by omega) (by omega)
    rw [f5 189 j (by unfold x_Mr; omega), f5 190 j (by unfold x_Mr; omega), t0.2.1 j (by omega) (by omega), w0.lv j (by omega) (by omega)]
    exact ⟨by omega, q_in_of (by omega) (by omega)⟩
  · rintro hj ho hw r5 m5 ⟨u5, f5⟩ _
    have ok : a_sprok n j o w := by omega
    have a := a_lv t v (j := j) (by omega) (by omega)
    rw [f5 189 j (by unfold x_Mr; omega), f5 190 j (by unfold x_Mr; omega), t0.2.1 j (by omega) (by omega), w0.lv j (by omega) (by omega)]
    have w5 := w0.fr f5 (by unfold x_Mr; omega)
    have p5 := p0.rem h9 hc6 w0 v pv u5
    obtain ⟨e1, e2, e3, e4, e5⟩ := w5
    have e190 : m5 190 j = A.1.1 j := (e1.1 j (by omega) (by omega)).1
    show q_At _ _ _ _ _ _ _ _ _ [(2, 188), (0, j), (0, o), (0, w), (0, a_sprc T A j w), (0, 0)] _ _
    have hcm : 0 ≤ a_sprc T A j w ∧ a_sprc T A j w ≤ T.1 j - A.1.1 j := by unfold a_sprc; omega
    refine q_for (A := fun i m' => q_At yX12_spring cX12_spring 6 (some .int) 3 0 0 _ 58 [(2, 188), (0, j), (0, o), (0, w), (0, a_sprc T A j w), (0, i)] [] (q_sh0, q_rb b, m')) (fun i m' => 0 ≤ i ∧ i ≤ a_sprc T A j w ∧ (∀ k, 0 ≤ k → k < A.1.1 j + i → m' 196 (60 * j + k) = if A.1.1 j ≤ k then o else A.2.1 j k) ∧ q_fx (fun c i => c = 196 ∧ 60 * j ≤ i ∧ i < 60 * j + 60) m5 m') (a_sprc T A j w) ?_ ?_ 0 m5 ⟨by omega, by omega, fun k k0 k1 => by rw [if_neg (by omega)]; exact e2 j k (by omega) (by omega) k0 (by show k < m5 190 j; omega), q_fx.rf⟩
    · rintro i m' hi ⟨i0, i1, a1, f⟩
      have : i = a_sprc T A j w := by omega
      subst this
      have ej : m' 190 j = A.1.1 j := (f _ _ (by omega)).trans e190
      rw [show a_sprc T A j w = a_sprc T A j w from rfl]
      refine bkX12_spring_58 (fun _ => ⟨by omega, q_in_of (by omega) (by omega)⟩) (fun _ => ?_) (fun z => absurd z (by omega)) (fun z => absurd z (by omega))
      rw [ej]
      have g : q_fx (fun c i => c = 190 ∧ i = j) m' (q_up m' 190 j (A.1.1 j + a_sprc T A j w)) := q_fx.rf.up ⟨rfl, rfl⟩
      have F : q_fx (w_y j) m5 (q_up m' 190 j (A.1.1 j + a_sprc T A j w)) := (f.mono (fun c i z => Or.inl z)).tr (g.mono (fun c i z => Or.inr z))
      refine ⟨fun _ => ⟨rfl, ⟨⟨fun i i0 i1 => ⟨?_, (F _ _ (by unfold w_y; omega)).trans (e1.1 i i0 i1).2⟩, (F _ _ (by unfold w_y; omega)).trans e1.2⟩, fun i k i0 i1 k0 k1 => ?_, fun d d0 d1 => (F _ _ (by unfold w_y; omega)).trans (e3 d d0 d1), (F _ _ (by unfold w_y; omega)).trans e4, (F _ _ (by unfold w_y; omega)).trans e5⟩, p5.fr F (by unfold x_Mr w_y; omega)⟩, fun z => absurd ok z, f0.tr ((f5.mono (fun c i z => by unfold x_pM2; exact Or.inr (Or.inr (Or.inl z)))).tr (F.mono (fun c i z => by unfold w_y at z; unfold x_pM2; omega)))⟩
      · show q_up m' 190 j (A.1.1 j + a_sprc T A j w) 190 i = if i = j then A.1.1 i + a_sprc T A j w else A.1.1 i
        by_cases hi : i = j
        · subst hi; rw [if_pos rfl, q_up_s]
        · rw [if_neg hi, q_up_i hi, f _ _ (by omega)]; exact (e1.1 i i0 i1).1
      · show q_up m' 190 j (A.1.1 j + a_sprc T A j w) 196 (60 * i + k) = if i = j ∧ A.1.1 j ≤ k then o else A.2.1 i k
        have k1 : k < q_up m' 190 j (A.1.1 j + a_sprc T A j w) 190 i := k1
        rw [q_up_c (by decide)]
        by_cases hi : i = j
        · subst hi
          rw [q_up_s] at k1
          rw [a1 k k0 k1]
          by_cases hk : A.1.1 i ≤ k
          · rw [if_pos hk, if_pos ⟨rfl, hk⟩]
          · rw [if_neg hk, if_neg (fun z => hk z.2)]
        · rw [q_up_i hi, f _ _ (by omega)] at k1
          have ei : m5 190 i = A.1.1 i := (e1.1 i i0 i1).1
          have li := a_lv t v i0 i1
          rw [if_neg (fun z => hi z.1), f _ _ (by omega)]
          exact e2 i k i0 i1 k0 k1
    · rintro i m' hi ⟨i0, i1, a1, f⟩ ih
      have ej : m' 190 j = A.1.1 j := (f _ _ (by omega)).trans e190
      refine bkX12_spring_58 (fun z => absurd z (by omega)) (fun z => absurd z (by omega)) (fun _ => ?_) (fun _ => ?_)
      · rw [ej]; exact ⟨q_in_of (by omega) (by omega), by omega, q_in_of (by omega) (by omega), q_in_of (by omega) (by omega), by omega, q_in_of (by omega) (by omega)⟩
      · rw [ej]
        refine ih _ ⟨by omega, by omega, fun k k0 k1 => ?_, f.up ⟨rfl, by omega, by omega⟩⟩
        by_cases hk : k = A.1.1 j + i
        · rw [show 60 * j + k = 60 * j + A.1.1 j + i by omega, q_up_s, if_pos (by omega)]
        · rw [q_up_i (by omega)]; exact a1 k k0 (by omega)
theorem op_spring {LW : qm → Prop} (hL : i_Lf LW) {k : Nat} {b : Int} {m : qm} (I : i_I LW k m) (j o w : Int) :
    q_Ev yX11_spring cX11_spring 6 (some .int) 3 0 0 [(2, 0), (0, j), (0, o), (0, w)] (q_sh0, q_rb b, m) (qK (q_rb b) (fun r m1 => q_Ev yX12_spring cX12_spring 6 (some .int) 3 0 0 [(2, 188), (0, j), (0, o), (0, w)] (q_sh0, q_rb b, m1) (i_O LW (k + 1) r))) := by
  obtain ⟨n, t, p, a, x, r, s, u, kk, l⟩ := I
  obtain ⟨T1, T2, T3⟩ := a_T_of t p
  obtain ⟨W1, W2, W3⟩ := a_N_of a
  obtain ⟨P1, P2, P3⟩ := a_U_of u
  refine (cl_spring T1 W1 P1 T3 W3 P3 j o w).post ?_
  rintro r1 m1 ⟨c1, c2, c4⟩
  refine i_O_of (b := b) ((rf_spring (T2.fr c4 (by unfold x_pC x_Cr; omega)) (W2.fr c4 (by unfold x_pC x_Cr; omega)) (P2.fr c4 (by unfold x_Mr x_pC x_Cr; omega)) T3 W3 P3 j o w).post ?_)
  rintro r2 m2 ⟨d1, d2, d4⟩
  have hx := fun A' P' c1 d1 v c2 d2 pv => i_I.wat (A' := A') (P' := P') hL t p x s kk l c4 d4 (by intro c i; unfold x_B x_T x_P x_X x_S x_K x_L x_pC x_Cr; omega) (by intro c i; unfold x_B x_T x_P x_X x_S x_K x_L x_pM2 x_Mr; omega) (by intro c i; unfold x_pM2 x_Mr; omega) c1 d1 v c2 d2 pv ((r.fr c4 (by intro c i; unfold x_R x_pC x_Cr; omega)).fr d4 (by intro c i; unfold x_R x_pM2 x_Mr; omega))
  by_cases ok : a_sprok n j o w
  · obtain ⟨rfl, c1, c2⟩ := c1 ok
    obtain ⟨rfl, d1, d2⟩ := d1 ok
    have lv := a_lv T3 W3 (j := j) ok.1.1 ok.1.2
    exact ⟨rfl, hx _ _ c1 d1 ((a_V.spr (T := a_Tof m) W3 ok.1 ok.2.1 (by have := ok.2.2; unfold a_sprc; omega)).mo (by omega)) c2 d2 ((a_PV.rem ⟨P1.2.1, P1.2.2.1⟩ W3 P3).mo (by omega))⟩
  · obtain ⟨rfl, c1, c2⟩ := c2 ok
    obtain ⟨rfl, d1, d2⟩ := d2 ok
    exact ⟨rfl, hx _ _ c1 d1 (W3.mo (by omega)) c2 d2 (P3.mo (by omega))⟩
/-! calls that only look -/
abbrev x_Sc (c i : Int) : Prop := c < 188 ∧ ¬ x_A c i
abbrev x_Sr (c i : Int) : Prop := 188 ≤ c ∧ ¬ x_A c i
theorem x_Sr17 : x_Sr 188 17 := by unfold x_Sr x_A x_T x_P x_N x_X x_S x_U x_K x_L; omega
theorem x_Sr0 {m : qm} : q_fx x_Sr m (q_up m 188 17 0) := q_fx.rf.up (by unfold x_Sr x_A x_T x_P x_N x_X x_S x_U x_K x_L; omega)
theorem i_joinS {LW : qm → Prop} (hL : i_Lf LW) {k : Nat} {b : Int} {m : qm} (I : i_I LW k m) {y1 y2 : MethodName} {c1 c2 : ByteArray} {n1 n2 d1 d2 : Nat} {rt : Option FieldType} {as1 as2 : List qv} {R : Int} {o : Option (List Int)}
    (hl : ∀ l, o = some l → l.length ≤ 10)
    (h1 : q_Ev y1 c1 n1 rt d1 0 0 as1 (q_sh0, q_rb b, m) (qK (q_rb b) (fun r m1 => r = R ∧ q_fx x_Sc m m1 ∧ i_rc m m1 o)))
    (h2 : ∀ m1, q_fx x_Sc m m1 → q_Ev y2 c2 n2 rt d2 0 0 as2 (q_sh0, q_rb b, m1) (qK (q_rb b) (fun r m2 => r = R ∧ q_fx x_Sr m1 m2 ∧ i_rr m1 m2 o))) :
    q_Ev y1 c1 n1 rt d1 0 0 as1 (q_sh0, q_rb b, m) (qK (q_rb b) (fun r m1 => q_Ev y2 c2 n2 rt d2 0 0 as2 (q_sh0, q_rb b, m1) (i_O LW (k + 1) r))) :=
  i_join hL I hl h1 h2 (fun c i z y => y.2 z) (fun c i z y => y.2 z) (fun c i z y => absurd y.1 (Int.not_lt.mpr z)) (fun c i z y => absurd y.1 (Int.not_le.mpr z))
theorem x_F_Sc : ∀ c i, x_F c i → x_Sc c i := fun c i z => ⟨by unfold x_F at z; omega, fun y => x_F_A c i y z⟩
theorem x_G_Sr : ∀ c i, x_G c i → x_Sr c i := fun c i z => ⟨by unfold x_G at z; omega, fun y => x_G_A c i y z⟩
/-- what both sides know of the town and the water before a call, and what stays known -/
theorem i_know {LW : qm → Prop} {k : Nat} {m : qm} (I : i_I LW k m) : ∃ n : Nat, i_B k n m ∧ c_T m n (a_Tof m) ∧ a_TV n (a_Tof m) ∧ c_W m 5 n (a_of m) ∧ a_V (1500 * k) n (m 189) (a_of m) ∧ ∀ m1, q_fx x_Sc m m1 → r_T m1 n (a_Tof m) ∧ r_W m1 n (a_of m) := by
  obtain ⟨n, t, p, a, x, r, s, u, kk, l⟩ := I
  obtain ⟨T1, T2, T3⟩ := a_T_of t p
  obtain ⟨W1, W2, W3⟩ := a_N_of a
  exact ⟨n, ⟨t, p, a⟩, T1, T3, W1, W3, fun m1 f => ⟨T2.fr f (by intro c i z y; have h := y.1; clear y; omega), W2.fr f (by intro c i z y; have h := y.1; clear y; omega)⟩⟩
theorem sp_shareOf {b B : Int} {m : qm} {n : Nat} {T : a_T} {A : a_W} (cW : r_W m n A) (t : a_TV n T) (v : a_V B n T.1 A) {j o : Int} (hj : 0 ≤ j ∧ j < n) : q_Ev yX12_shareOf cX12_shareOf 5 (some .int) 1 0 0 [(2, 188), (0, j), (0, o)] (q_sh0, q_rb b, m) (qK (q_rb b) (fun r m' => m' = m ∧ r = g_n (A.2.1 j) o (A.1.1 j).toNat)) := by
  have h9 := t.1
  have a := a_lv t v (j := j) hj.1 hj.2
  obtain ⟨e1, e2, e3, e4, e5⟩ := cW
  have e190 : m 190 j = A.1.1 j := (e1.1 j hj.1 hj.2).1
  refine q_enter (by decide +kernel) (by simp) (Nat.le_of_ble_eq_true rfl) ?_
  refine bkX12_shareOf_0 ?_
  refine q_for1 (A := fun i (x : Int) m' => q_At yX12_shareOf cX12_shareOf 5 (some .int) 1 0 0 _ 5 [(2, 188), (0, j), (0, o), (0, x), (0, i)] [] (q_sh0, q_rb b, m')) (fun i x m' => ∃ u : Nat, i = u ∧ (u : Int) ≤ A.1.1 j ∧ m' = m ∧ x = g_n (A.2.1 j) o u) (A.1.1 j) ?_ ?_ 0 0 m ⟨0, rfl, by omega, rfl, rfl⟩
  · rintro i x m' hi ⟨u, rfl, hu, rfl, rfl⟩
    have : u = (A.1.1 j).toNat := by omega
    exact bkX12_shareOf_5 (by omega) (fun _ => ⟨rfl, by rw [this]⟩) (fun z => absurd z (by omega)) (fun z => absurd z (by omega)) (fun z => absurd z (by omega)) (fun z => absurd z (by omega)) (fun z => absurd z (by omega))
  · rintro i x m' hi ⟨u, rfl, hu, rfl, rfl⟩ ih
    have b1 := g_n_in (f := A.2.1 j) (v := o) u
    have e : m' 196 (60 * j + u) = A.2.1 j u := e2 j u hj.1 hj.2 (by omega) (by show (u : Int) < m' 190 j; omega)
    refine bkX12_shareOf_5 (by omega) (fun z => absurd z (by omega)) (fun _ => ⟨q_in_of (by omega) (by omega), q_in_of (by omega) (by omega), by omega⟩) (fun _ _ => ⟨q_in_of (by omega) (by omega), q_in_of (by omega) (by omega)⟩) (fun _ z => ?_) (fun _ _ => ⟨q_in_of (by omega) (by omega), q_in_of (by omega) (by omega)⟩) (fun _ z => ?_)
    · exact ih _ _ ⟨u + 1, by omega, by omega, rfl, by simp only [g_n]; rw [if_neg (by rw [← e]; exact z)]⟩
    · exact ih _ _ ⟨u + 1, by omega, by omega, rfl, by simp only [g_n]; rw [if_pos (by rw [← e]; exact z)]⟩
theorem sp_dropsW {b s B : Int} {m : qm} {n : Nat} {T : a_T} {A : a_W} (hs : q_st s) (cW : c_W m s n A) (t : a_TV n T) (v : a_V B n T.1 A) {j o w : Int} (hj : 0 ≤ j ∧ j < n) (hw : 0 ≤ w ∧ w ≤ A.1.1 j) : q_Ev yX7_dropsFrom cX7_dropsFrom 6 (some .int) 3 0 0 [(2, s), (0, o), (0, j), (0, w)] (q_sh0, q_rb b, m) (qK (q_rb b) (fun r m' => m' = m ∧ r = g_n (A.2.1 j) o w.toNat)) := by
  have h9 := t.1
  have a := a_lv t v (j := j) hj.1 hj.2
  have := sp_dropsFrom (b := b) (v := o) hs (by omega) (cW.1 j hj.1 hj.2).1 (by omega) w.toNat (by omega)
  rwa [show ((w.toNat : Nat) : Int) = w by omega] at this
theorem op_drop {LW : qm → Prop} (hL : i_Lf LW) {k : Nat} {b : Int} {m : qm} (I : i_I LW k m) (j v : Int) :
    q_Ev yX11_drop cX11_drop 3 (some .int) 3 0 0 [(2, 0), (0, j), (0, v)] (q_sh0, q_rb b, m) (qK (q_rb b) (fun r m1 => q_Ev yX12_drop cX12_drop 3 (some .int) 3 0 0 [(2, 188), (0, j), (0, v)] (q_sh0, q_rb b, m1) (i_O LW (k + 1) r))) := by
  obtain ⟨n, B, T1, T3, W1, W3, K⟩ := i_know I
  have h9 := T3.1
  have e0 := T1.1
  refine i_joinS hL I (R := if (0 ≤ j ∧ j < n) ∧ (0 ≤ v ∧ v < (a_of m).1.1 j) then (a_of m).2.1 j v else -1) (o := none) (fun l z => by cases z) ?_ ?_
  · refine q_enter (by decide +kernel) (by simp) (Nat.le_of_ble_eq_true rfl) ?_
    have el : ∀ hj : 0 ≤ j ∧ j < m 1 3, m 8 j = (a_of m).1.1 j := fun hj => W1.lv j hj.1 (by omega)
    refine bkX11_drop_0 (fun hj hv => ⟨by rw [if_neg (by omega)], q_fx.rf, rfl, fun _ => rfl⟩) (fun hj _ => by omega) (fun hj hv z => ⟨by rw [el hj] at z; rw [if_neg (by omega)], q_fx.rf, rfl, fun _ => rfl⟩) (fun hj hv z => ?_) (fun hj hv z r4 m4 h4 _ => ?_) (fun hj => ⟨by rw [if_neg (by omega)], q_fx.rf, rfl, fun _ => rfl⟩) (P4 := fun r m' => m' = m ∧ r = (a_of m).2.1 j v)
    · have w := (W1.1 j hj.1 (by omega)).1
      have lv := a_lv T3 W3 (j := j) hj.1 (by omega)
      rw [el hj] at z
      refine (sp_originAt q_st5 (by omega) ⟨w.2.1, w.2.2.1⟩ (by omega)).post ?_
      rintro r m' ⟨rfl, rfl⟩
      exact ⟨rfl, w.2.2.2 v hv z⟩
    · obtain ⟨rfl, rfl⟩ := h4
      rw [el hj] at z
      exact ⟨by rw [if_pos (by omega)], q_fx.rf, rfl, fun _ => rfl⟩
  · intro m1 f1
    obtain ⟨T2, W2⟩ := K m1 f1
    have e1 := T2.1
    refine q_enter (by decide +kernel) (by simp) (Nat.le_of_ble_eq_true rfl) ?_
    have el : ∀ hj : 0 ≤ j ∧ j ≤ m1 188 0 - 1, m1 190 j = (a_of m).1.1 j := fun hj => W2.lv j hj.1 (by omega)
    have lv : ∀ hj : 0 ≤ j ∧ j ≤ m1 188 0 - 1, 0 ≤ m1 190 j ∧ m1 190 j ≤ 60 := fun hj => by have := a_lv T3 W3 (j := j) hj.1 (by omega); rw [el hj]; omega
    refine bkX12_drop_0 (q_in_of (by omega) (by omega)) (fun hj => ⟨by omega, by have := lv hj; exact q_in_of (by omega) (by omega)⟩) (fun hj hv => ?_) (fun hj hv => ⟨?_, x_Sr0, i_g0r⟩) (fun hj hv => ⟨by rw [el hj] at hv; rw [if_neg (by omega)], x_Sr0, i_g0r⟩) (fun hj => ⟨by rw [if_neg (by omega)], x_Sr0, i_g0r⟩)
    · have := lv hj; exact ⟨q_in_of (by omega) (by omega), q_in_of (by omega) (by omega), by omega⟩
    · have e2 := W2.2.1 j v hj.1 (by omega) hv.1 (by show v < m1 190 j; omega)
      rw [el hj] at hv
      rw [if_pos (by omega)]
      exact e2
theorem op_share {LW : qm → Prop} (hL : i_Lf LW) {k : Nat} {b : Int} {m : qm} (I : i_I LW k m) (j v : Int) :
    q_Ev yX11_share cX11_share 3 (some .int) 4 0 0 [(2, 0), (0, j), (0, v)] (q_sh0, q_rb b, m) (qK (q_rb b) (fun r m1 => q_Ev yX12_share cX12_share 3 (some .int) 3 0 0 [(2, 188), (0, j), (0, v)] (q_sh0, q_rb b, m1) (i_O LW (k + 1) r))) := by
  obtain ⟨n, B, T1, T3, W1, W3, K⟩ := i_know I
  have h9 := T3.1
  have e0 := T1.1
  refine i_joinS hL I (R := if (0 ≤ j ∧ j < n) ∧ (0 ≤ v ∧ v ≤ 6) then g_n ((a_of m).2.1 j) v ((a_of m).1.1 j).toNat else -1) (o := none) (fun l z => by cases z) ?_ ?_
  · refine q_enter (by decide +kernel) (by simp) (Nat.le_of_ble_eq_true rfl) ?_
    refine bkX11_share_0 (fun _ _ => by omega) (P3 := fun r m' => m' = m ∧ r = g_n ((a_of m).2.1 j) v ((a_of m).1.1 j).toNat) (fun hj hv => ?_) (fun hj hv r4 m4 h4 _ => ?_) (fun hj hv => ⟨by rw [if_neg (by omega)], q_fx.rf, rfl, fun _ => rfl⟩) (fun hj => ⟨by rw [if_neg (by omega)], q_fx.rf, rfl, fun _ => rfl⟩)
    · have lv := a_lv T3 W3 (j := j) hj.1 (by omega)
      rw [show m 8 j = _ from W1.lv j hj.1 (by omega)]
      exact sp_dropsW q_st5 W1 T3 W3 (by omega) (by omega)
    · obtain ⟨rfl, rfl⟩ := h4
      exact ⟨by rw [if_pos (by omega)], q_fx.rf, rfl, fun _ => rfl⟩
  · intro m1 f1
    obtain ⟨T2, W2⟩ := K m1 f1
    have e1 := T2.1
    refine q_enter (by decide +kernel) (by simp) (Nat.le_of_ble_eq_true rfl) ?_
    refine bkX12_share_0 (q_in_of (by omega) (by omega)) (fun hj hv => sp_shareOf (W2.fr (X := fun c i => c = 188 ∧ i = 17) (q_fx.rf.up ⟨rfl, rfl⟩) (by omega)) T3 W3 (by omega)) (fun hj hv r3 m3 h3 _ => ?_) (fun hj hv => ⟨by rw [if_neg (by omega)], x_Sr0, i_g0r⟩) (fun hj => ⟨by rw [if_neg (by omega)], x_Sr0, i_g0r⟩)
    obtain ⟨rfl, rfl⟩ := h3
    exact ⟨by rw [if_pos (by omega)], x_Sr0, i_g0r⟩
