/-! ===== least, place ===== -/
def a_xa (A : a_W) (x d : Int) : f_S := (fun i => if i = x then A.1.1 i + d else A.1.1 i, A.1.2.1, 0)
theorem a_xa_ok {B : Int} {n : Nat} {T : a_T} {A : a_W} (t : a_TV n T) (v : a_V B n T.1 A) {x d : Int} (h0 : 0 ≤ d) (h1 : d ≤ T.1 x - A.1.1 x) : f_OK n T.2.2.2.2 T.1 T.2.2.2.1 (a_xa A x d) := by
  have ok := a_OK0 t v
  refine ⟨ok.1, fun j a b => ?_⟩
  have z := ok.2 j a b
  have e : (a_xa A x d).1 j = if j = x then A.1.1 j + d else A.1.1 j := rfl
  have e2 : (a_x0 A).1 j = A.1.1 j := rfl
  refine ⟨z.1, z.2.1, z.2.2.1, z.2.2.2.1, z.2.2.2.2.1, z.2.2.2.2.2.1, z.2.2.2.2.2.2.1, ?_, ?_⟩
  · rw [e]; split <;> omega
  · rw [e]; split
    · rename_i h; subst h; omega
    · omega
theorem f_c0.add {n : Nat} {m : qm} {u c h : Int → Int} {A : a_W} (g : f_c0 n m u c h (a_x0 A)) {x d : Int} (h0 : 0 ≤ x) (h1 : x < n) : f_c0 n (q_up m 27 x (m 27 x + d)) u c h (a_xa A x d) := by
  obtain ⟨g1, g2, g3, g4, g5, g6⟩ := g
  have f : q_fx (fun c i => c = 27 ∧ i = x) m (q_up m 27 x (m 27 x + d)) := q_fx.rf.up ⟨rfl, rfl⟩
  refine ⟨(f _ _ (by omega)).trans g1, (f _ _ (by omega)).trans g2, fun j a b => (f _ _ (by omega)).trans (g3 j a b), fun j a b => (f _ _ (by omega)).trans (g4 j a b), fun j a b => (f _ _ (by omega)).trans (g5 j a b), fun j a b => ⟨?_, (f _ _ (by omega)).trans (g6.1 j a b).2⟩, (f _ _ (by omega)).trans g6.2⟩
  show (q_up m 27 x (m 27 x + d)) 27 j = if j = x then A.1.1 j + d else A.1.1 j
  by_cases hj : j = x
  · subst hj; rw [q_up_s, if_pos rfl]; have := (g6.1 j a b).1; have : m 27 j = A.1.1 j := this; omega
  · rw [q_up_i hj, if_neg hj]; exact (g6.1 j a b).1
theorem f_rl.add {n : Nat} {m : qm} {u c h : Int → Int} {A : a_W} (g : f_rl n m u c h (a_x0 A) 0) {x d : Int} (h0 : 0 ≤ x) (h1 : x < n) : f_rl n (q_up m 207 x (m 207 x + d)) u c h (a_xa A x d) 0 := by
  obtain ⟨g1, g3, g4, g5, g6⟩ := g
  have f : q_fx (fun c i => c = 207 ∧ i = x) m (q_up m 207 x (m 207 x + d)) := q_fx.rf.up ⟨rfl, rfl⟩
  refine ⟨(f _ _ (by omega)).trans g1, fun j a b => (f _ _ (by omega)).trans (g3 j a b), fun j a b => (f _ _ (by omega)).trans (g4 j a b), fun j a b => (f _ _ (by omega)).trans (g5 j a b), fun j a b => ⟨?_, (f _ _ (by omega)).trans (g6.1 j a b).2⟩, rfl⟩
  show (q_up m 207 x (m 207 x + d)) 207 j = if j = x then A.1.1 j + d else A.1.1 j
  by_cases hj : j = x
  · subst hj; rw [q_up_s, if_pos rfl]; have := (g6.1 j a b).1; have : m 207 j = A.1.1 j := this; omega
  · rw [q_up_i hj, if_neg hj]; exact (g6.1 j a b).1
def a_lst (g : Int → f_S) (j w : Int) : Nat → Int → Int
  | 0, _ => -2
  | f + 1, d => if w ≤ (g d).1 j then d else a_lst g j w f (d + 1)
abbrev x_g7 (c i : Int) : Prop := x_g c i ∨ (c = 188 ∧ i = 17)
theorem x_f_tC : ∀ c i, x_f c i → x_tC c i := by intro c i; unfold x_f x_tC; omega
theorem x_g7_tM : ∀ c i, x_g7 c i → x_tM c i := by intro c i; unfold x_g7 x_g x_tM; omega
theorem r_no {m m1 : qm} {n : Nat} {A : a_W} {T : a_T} (K : r_T m1 n T ∧ r_W m1 n A) : q_fx x_tM m1 (q_up m1 188 17 0) ∧ r_W (q_up m1 188 17 0) n A ∧ i_rr m1 (q_up m1 188 17 0) none := ⟨x_tM0, K.2.fr (q_fx.rf.up (X := fun c i => c = 188 ∧ i = 17) ⟨rfl, rfl⟩) (by omega), i_g0r⟩
theorem op_least {LW : qm → Prop} (hL : i_Lf LW) {k : Nat} {b : Int} {m : qm} (I : i_I LW k m) (x j w v : Int) :
    q_Ev yX11_least cX11_least 7 (some .int) 4 0 0 [(2, 0), (0, x), (0, j), (0, w), (0, v)] (q_sh0, q_rb b, m) (qK (q_rb b) (fun r m1 => q_Ev yX12_least cX12_least 7 (some .int) 3 0 0 [(2, 188), (0, x), (0, j), (0, w), (0, v)] (q_sh0, q_rb b, m1) (i_O LW (k + 1) r))) := by
  obtain ⟨n, en, T1, T3, W1, W3, K⟩ := i_knowT I
  have h9 := T3.1
  have e0 := T1.1
  generalize hA : a_of m = A at W1 W3 K
  generalize hT : a_Tof m = T at T1 T3 W3 K
  by_cases ok : (0 ≤ x ∧ x < n) ∧ (0 ≤ j ∧ j < n) ∧ (0 ≤ w ∧ w ≤ 60) ∧ (0 ≤ v ∧ v ≤ 200)
  · obtain ⟨okx, okj, okw, okv⟩ := ok
    obtain ⟨q, rfl⟩ : ∃ q : Nat, v = q := ⟨v.toNat, by omega⟩
    have lx := a_lv T3 W3 okx.1 okx.2
    generalize hD : T.1 x - A.1.1 x = D
    have okd : ∀ d, 0 ≤ d → d ≤ D → f_OK n T.2.2.2.2 T.1 T.2.2.2.1 (a_xa A x d) := fun d a b => a_xa_ok T3 W3 a (by omega)
    generalize hG : (fun d => f_it n T.2.2.2.2 T.1 T.2.2.2.1 q (a_xa A x d)) = G
    have hG' : ∀ d, f_it n T.2.2.2.2 T.1 T.2.2.2.1 q (a_xa A x d) = G d := fun d => by rw [← hG]
    have lo : ∀ d, 0 ≤ d → d ≤ D → 0 ≤ (G d).2.2 ∧ (G d).2.2 ≤ 81 * q := fun d a b => by
      have := f_it_lost (okd d a b) q
      rw [hG'] at this
      have e : (a_xa A x d).2.2 = 0 := rfl
      omega
    generalize hR : a_lst G j w (D + 1).toNat 0 = R
    refine i_joinT hL I en hA (R := R) (o := if R = -2 then none else some [(G R).2.2]) (fun l z => by split at z <;> cases z; simp) ?_ ?_
    · refine q_enter (by decide +kernel) (by simp) (Nat.le_of_ble_eq_true rfl) ?_
      have e1 : m 2 x = T.1 x := T1.2.1 x okx.1 okx.2
      have e2 : m 8 x = A.1.1 x := W1.lv x okx.1 okx.2
      refine bkX11_least_0 (fun _ _ _ _ => ⟨by omega, by rw [e1, e2]; exact q_in_of (by omega) (by omega)⟩) (fun _ _ _ _ => ?_) (fun _ _ _ z => absurd okv z) (fun _ _ z => absurd okw z) (fun _ z => absurd (by omega) z) (fun z => absurd (by omega) z)
      rw [e1, e2, hD]
      refine q_for' (A := fun i (_ : Unit) m' => q_At yX11_least cX11_least 7 (some .int) 4 0 0 _ 43 [(2, 0), (0, x), (0, j), (0, w), (0, (q : Int)), (0, D), (0, i)] [] (q_sh0, q_rb b, m')) (fun i _ m' => ∃ f : Nat, 0 ≤ i ∧ i + f = D + 1 ∧ R = a_lst G j w f i ∧ q_fx x_f m m') D ?_ ?_ 0 () m ⟨(D + 1).toNat, by omega, by omega, hR.symm, q_fx.rf⟩
      · rintro i _ m' hi ⟨f, i0, hf, he, fx⟩
        have : f = 0 := by omega
        subst this
        refine bkX11_least_43 (P2 := fun _ _ => True) (P3 := fun _ _ _ _ => True) (fun _ => ⟨he.symm, fx.mono x_f_tC, ?_⟩) (fun z => absurd z (by omega)) (fun z => absurd z (by omega)) (fun z => absurd z (by omega)) (fun z => absurd z (by omega)) (fun z => absurd z (by omega)) (fun z => absurd z (by omega)) (fun z => absurd z (by omega)) (fun z => absurd z (by omega))
        rw [if_pos (show R = -2 from he)]
        exact ⟨fx _ _ (by unfold x_f; omega), fun i => fx _ _ (by unfold x_f; omega)⟩
      · rintro i _ m' hi ⟨f, i0, hf, he, fx⟩ ih
        obtain ⟨f, rfl⟩ : ∃ g, f = g + 1 := ⟨f - 1, by omega⟩
        simp only [a_lst] at he
        have T1' := T1.fr fx (by unfold x_f; omega)
        have W1' := W1.fr fx (by unfold x_f w_z; omega)
        have li := lo i i0 hi
        refine bkX11_least_43 (P3 := fun _ m2 _ m3 => f_cl n m3 T.2.2.2.2 T.1 T.2.2.2.1 (G i) ∧ q_fx x_f m' m3) (fun z => absurd z (by omega)) (fun _ => sp_startW T1' W1' h9) ?_ ?_ (fun _ _ _ _ _ _ _ _ _ => by omega) (fun _ _ _ _ _ _ _ _ _ _ => q_in_of (by omega) (by omega)) ?_ (fun _ _ _ _ _ _ _ _ _ _ => by decide) ?_
        · rintro _ r2 m2 ⟨g1, -, f2⟩ _
          have : m2 27 x = A.1.1 x := (g1.2.2.2.2.2.1 x okx.1 okx.2).1
          exact ⟨by omega, q_in_of (by omega) (by omega)⟩
        · rintro _ r2 m2 ⟨g1, -, f2⟩ _
          have c := (g1.add (d := i) okx.1 okx.2).cl (okd i i0 hi)
          rw [← hG']
          refine (sp_allF c q (by have e : (a_xa A x i).2.2 = 0 := rfl; omega)).post (fun r m3 z => ⟨z.1, ?_⟩)
          exact (f2.up (by unfold x_f; omega)).tr (z.2.mono (fun c i z => by unfold x_f; omega))
        · rintro _ r2 m2 _ _ r3 m3 ⟨c3, f3⟩ _ hz
          rw [c3.lv j okj.1 okj.2] at hz
          rw [if_neg (by omega)] at he
          exact ih () m3 ⟨f, by omega, by omega, he, fx.tr f3⟩
        · rintro _ r2 m2 _ _ r3 m3 ⟨c3, f3⟩ _ hz
          rw [c3.lv j okj.1 okj.2] at hz
          rw [if_pos hz] at he
          subst he
          rw [if_neg (by omega), c3.lo]
          have h1 := i_rw.tell (v := (G R).2.2) (i_rw.clear (m := m3) (q_fx.rf (X := x_F)))
          rw [show (q_up m3 0 16 0) 0 16 = 0 from q_up_s] at h1
          exact ⟨rfl, (((fx.tr f3).mono x_f_tC)).tr (h1.1.mono x_F_tC), h1.2.1, h1.2.2⟩
    · intro m1 f1
      obtain ⟨T2, W2⟩ := K m1 f1
      have e1 := T2.1
      refine q_enter (by decide +kernel) (by simp) (Nat.le_of_ble_eq_true rfl) ?_
      refine bkX12_least_0 (q_in_of (by omega) (by omega)) (fun _ _ _ _ => ?_) (fun _ _ _ z => absurd okv z) (fun _ _ z => absurd okw z) (fun _ z => absurd (by omega) z) (fun z => absurd (by omega) z)
      refine q_for' (A := fun i (_ : Unit) m' => q_At yX12_least cX12_least 7 (some .int) 3 0 0 _ 44 [(2, 188), (0, x), (0, j), (0, w), (0, (q : Int)), (0, i), (4, 0)] [] (q_sh0, q_rb b, m')) (fun i _ m' => ∃ f : Nat, 0 ≤ i ∧ i + f = D + 1 ∧ R = a_lst G j w f i ∧ q_fx x_g7 m1 m') D ?_ ?_ 0 () _ ⟨(D + 1).toNat, by omega, by omega, hR.symm, q_fx.rf.up (Or.inr ⟨rfl, rfl⟩)⟩
      · rintro i _ m' hi ⟨f, i0, hf, he, fx⟩
        have : f = 0 := by omega
        subst this
        have W2' := W2.fr fx (by unfold x_g7 x_g; omega)
        have T2' := T2.fr fx (by unfold x_g7 x_g; omega)
        have g1 : m' 189 x = T.1 x := T2'.2.1 x okx.1 okx.2
        have g2 : m' 190 x = A.1.1 x := W2'.lv x okx.1 okx.2
        refine bkX12_least_44 (P2 := fun _ _ => True) (P3 := fun _ _ _ _ => True) ⟨by omega, q_in_of (by omega) (by omega)⟩ (fun _ => ⟨he.symm, fx.mono x_g7_tM, W2', ?_⟩) (fun z => absurd z (by omega)) (fun z => absurd z (by omega)) (fun z => absurd z (by omega)) (fun z => absurd z (by omega)) (fun z => absurd z (by omega)) (fun z => absurd z (by omega)) (fun z => absurd z (by omega)) (fun z => absurd z (by omega))
        rw [if_pos (show R = -2 from he)]
        exact ⟨fx _ _ (by unfold x_g7 x_g; omega), fun i => fx _ _ (by unfold x_g7 x_g; omega)⟩
      · rintro i _ m' hi ⟨f, i0, hf, he, fx⟩ ih
        obtain ⟨f, rfl⟩ : ∃ g, f = g + 1 := ⟨f - 1, by omega⟩
        simp only [a_lst] at he
        have W2' := W2.fr fx (by unfold x_g7 x_g; omega)
        have T2' := T2.fr fx (by unfold x_g7 x_g; omega)
        have g1 : m' 189 x = T.1 x := T2'.2.1 x okx.1 okx.2
        have g2 : m' 190 x = A.1.1 x := W2'.lv x okx.1 okx.2
        refine bkX12_least_44 (P3 := fun _ m2 r m3 => f_rl n m3 T.2.2.2.2 T.1 T.2.2.2.1 (G i) r ∧ q_fx x_g m' m3) ⟨by omega, q_in_of (by omega) (by omega)⟩ (fun z => absurd z (by omega)) (fun _ => sp_beginW T2' W2' h9) ?_ ?_ (fun _ _ _ _ _ _ _ _ _ => by omega) (fun _ _ _ _ _ _ _ _ _ _ => by decide) ?_ (fun _ _ _ _ _ _ _ _ _ _ => q_in_of (by omega) (by omega)) ?_
        · rintro _ r2 m2 ⟨g1, f2⟩ _
          have : m2 207 x = A.1.1 x := (g1.2.2.2.2.1 x okx.1 okx.2).1
          exact q_in_of (by omega) (by omega)
        · rintro _ r2 m2 ⟨g1, f2⟩ _
          have c := g1.add (d := i) okx.1 okx.2
          rw [← hG']
          refine (sp_goOnNF c (okd i i0 hi) q (by omega)).post (fun r m3 z => ⟨z.1, ?_⟩)
          exact ((f2.mono (fun c i z => by unfold x_g; omega)).up (by unfold x_g; omega)).tr (z.2.mono (fun c i z => by unfold f_X at z; unfold x_g; omega))
        · rintro _ r2 m2 _ _ r3 m3 ⟨c3, f3⟩ _ hz
          rw [c3.lv j okj.1 okj.2] at hz
          rw [if_pos hz] at he
          subst he
          rw [if_neg (by omega), c3.lo]
          have h1 := i_mw.tell (v := (G R).2.2) (i_mw.clear (m := m3) (q_fx.rf (X := x_G)))
          rw [show (q_up m3 188 16 0) 188 16 = 0 from q_up_s] at h1
          have F := fx.tr (f3.mono (fun c i z => Or.inl z))
          exact ⟨rfl, (F.mono x_g7_tM).tr (h1.1.mono x_G_tM), (W2.fr F (by unfold x_g7 x_g; omega)).fr h1.1 (by unfold x_G; omega), h1.2.1, h1.2.2⟩
        · rintro _ r2 m2 _ _ r3 m3 ⟨c3, f3⟩ _ hz
          rw [c3.lv j okj.1 okj.2] at hz
          rw [if_neg (by omega)] at he
          exact ih () m3 ⟨f, by omega, by omega, he, fx.tr (f3.mono (fun c i z => Or.inl z))⟩
  · refine i_joinT hL I en hA (R := -1) (o := none) (fun l z => by cases z) ?_ ?_
    · refine q_enter (by decide +kernel) (by simp) (Nat.le_of_ble_eq_true rfl) ?_
      exact bkX11_least_0 (fun z1 z2 z3 z4 => absurd (by omega) ok) (fun z1 z2 z3 z4 => absurd (by omega) ok) (fun _ _ _ _ => ⟨rfl, q_fx.rf, rfl, fun _ => rfl⟩) (fun _ _ _ => ⟨rfl, q_fx.rf, rfl, fun _ => rfl⟩) (fun _ _ => ⟨rfl, q_fx.rf, rfl, fun _ => rfl⟩) (fun _ => ⟨rfl, q_fx.rf, rfl, fun _ => rfl⟩)
    · intro m1 f1
      have K1 := K m1 f1
      have e1 := K1.1.1
      refine q_enter (by decide +kernel) (by simp) (Nat.le_of_ble_eq_true rfl) ?_
      exact bkX12_least_0 (q_in_of (by omega) (by omega)) (fun z1 z2 z3 z4 => absurd (by omega) ok) (fun _ _ _ _ => ⟨rfl, r_no (m := m) K1⟩) (fun _ _ _ => ⟨rfl, r_no (m := m) K1⟩) (fun _ _ => ⟨rfl, r_no (m := m) K1⟩) (fun _ => ⟨rfl, r_no (m := m) K1⟩)
