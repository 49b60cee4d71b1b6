/-! ===== calls that try something and put all back ===== -/
abbrev x_tC (c i : Int) : Prop := (14 ≤ c ∧ c ≤ 32) ∨ (c = 0 ∧ i = 16) ∨ c = 169
abbrev x_tM (c i : Int) : Prop := c = 190 ∨ (195 ≤ c ∧ c ≤ 197) ∨ c = 199 ∨ c = 202 ∨ c = 203 ∨ c = 205 ∨ (207 ≤ c ∧ c ≤ 210) ∨ c = 219 ∨ (c = 188 ∧ (10 ≤ i ∧ i ≤ 12 ∨ i = 16 ∨ i = 17 ∨ i = 36))
theorem i_I.look {LW : qm → Prop} (hL : i_Lf LW) {k n : Nat} {m m1 m2 : qm} (t : i_T n m) (p : i_P n m) (a : i_N (1500 * k) n m) (x : i_X m) (s : i_S n m) (u : i_U (1500 * k) n m) (kk : i_K (1500 * k) n m) (l : LW m) (f1 : q_fx x_tC m m1) (f2 : q_fx x_tM m1 m2) (rW : r_W m2 n (a_of m)) (hR : i_R m2) : i_I LW (k + 1) m2 := by
  obtain ⟨W1, W2, W3⟩ := a_N_of a
  obtain ⟨P1, P2, P3⟩ := a_U_of u
  exact i_I.wat hL t p x s kk l f1 f2 (by intro c i; unfold x_B x_T x_P x_X x_S x_K x_L x_tC; omega) (by intro c i; unfold x_B x_T x_P x_X x_S x_K x_L x_tM; omega) (by intro c i; unfold x_tM; omega) (W1.fr f1 (by unfold w_z x_tC; omega)) rW (W3.mo (by omega)) (P1.fr f1 (by unfold x_Cr x_tC; omega)) ((P2.fr f1 (by unfold x_Mr x_tC; omega)).fr f2 (by unfold x_Mr x_tM; omega)) (P3.mo (by omega)) hR
theorem r_W.lay {m m' : qm} {n : Nat} {A : a_W} {c p : Int} (h : r_W m n A) (hn : n ≤ 9) (hl : ∀ j : Int, 0 ≤ j → j < n → A.1.1 j ≤ 60) (he : ∀ i, 0 ≤ i → i < 597 → m' c (p + i) = y_L m i) : a_eq n (a_row (fun i => m' c (p + i))) A := by
  have l2 : ∀ j : Int, 0 ≤ j → j < n → m 190 j ≤ 60 := fun j a b => by rw [h.lv j a b]; exact hl j a b
  refine (a_eq.tr ?_ (a_row_L hn l2)).tr h
  exact (a_row_en hn (fun i i0 i1 => (he i i0 i1).symm) (fun j a b => by rw [y_L1 a (by omega)]; exact l2 j a b)).sy
theorem r_W.bring {m' : qm} {n : Nat} {A : a_W} {f : Int → Int} (hn : n ≤ 9) (hl : ∀ j : Int, 0 ≤ j → j < n → A.1.1 j ≤ 60) (y : y_B m' f) (e : a_eq n (a_row f) A) : r_W m' n A := by
  obtain ⟨y1, y2, y3, y4, y5, y6⟩ := y
  refine a_eq.tr (B := a_row f) ⟨⟨fun j a b => y2 j a (by omega), y5⟩, fun j k a b c d => ?_, fun d a b => y3 d a b, y4, y6⟩ e
  have d : k < m' 190 j := d
  have e1 := (e.1.1 j a b).1
  have l := hl j a b
  have e2 := (y2 j a (by omega)).1
  have e3 : (a_row f).1.1 j = f (540 + 2 * j) := rfl
  exact y1 _ (by omega) (by omega)
theorem sp_tryAsNow {b : Int} {m : qm} {n : Nat} {T : a_T} {A : a_W} (cT : c_T m n T) (cW : c_W m 5 n A) (hn : n ≤ 9) (hl : ∀ j : Int, 0 ≤ j → j < n → A.1.1 j ≤ 60) : q_Ev yX11_tryAsNow cX11_tryAsNow 1 none 2 0 0 [(2, 0)] (q_sh0, q_rb b, m) (qK (q_rb b) (fun _ m' => c_W m' 14 n A ∧ c_Q m' 14 n T ∧ (∀ q, 0 ≤ q → q < 7 → m' 22 q = m 13 q) ∧ q_fx (fun c i => 14 ≤ c ∧ c ≤ 22) m m')) := by
  have s14 : q_st 14 := by unfold q_st; decide
  refine q_enter (by decide +kernel) (by simp) (Nat.le_of_ble_eq_true rfl) ?_
  refine bkX11_tryAsNow_0 (sp_copyWater s14 q_st5 (by omega) cW.b9) (P2 := fun _ m1 _ m2 => (∀ i, 0 ≤ i → i < 9 → m2 (14 + 5) i = m1 (5 + 5) i ∧ m2 (14 + 6) i = m1 (5 + 6) i) ∧ q_fr [14 + 5, 14 + 6] m1 m2) (fun _ m1 _ _ => sp_copyPipes s14 q_st5 (by omega)) (fun r1 m1 h1 _ r2 m2 h2 _ => ?_)
  obtain ⟨w, f⟩ := h1
  obtain ⟨g, f2⟩ := h2
  have f2' : q_fx (fun c i => c = 19 ∨ c = 20) m1 m2 := f2.fx (by intro c hc i; simp at hc; omega)
  have F : q_fx (fun c i => 14 ≤ c ∧ c ≤ 22) m m2 := (f.mono (fun c i z => by unfold w_z at z; omega)).tr (f2'.mono (fun c i z => by omega))
  refine ⟨cW.cg hn hl (w.fr f2' (by unfold w_z; omega)), ⟨(F _ _ (by omega)).trans cT.1, fun j a b => (F _ _ (by omega)).trans (cT.2.1 j a b), fun j a b => ?_, fun j a b => ?_⟩, fun q q0 q1 => ?_, F⟩
  · rw [(g j a (by omega)).1, f _ _ (by unfold w_z; omega)]; exact cT.2.2.2.2.1 j a b
  · rw [(g j a (by omega)).2, f _ _ (by unfold w_z; omega)]; exact cT.2.2.2.2.2 j a b
  · rw [f2' _ _ (by omega)]; exact w.2.2.2.1 q q0 q1
theorem sp_isQuiet {b s : Int} {m : qm} {n : Nat} {h l : Int → Int} (hs : q_st s) (hn : m 1 3 = n) (h9 : n ≤ 9) (hh : f_en n (m (s + 5)) h) (hl : f_en n (m (s + 3)) l) : q_Ev yX11_isQuiet cX11_isQuiet 3 (some .boolean) 1 0 0 [(2, 0), (2, s)] (q_sh0, q_rb b, m) (qK (q_rb b) (fun r m' => m' = m ∧ ((r = 1 ∧ ¬ a_mov n h l) ∨ (r = 0 ∧ a_mov n h l)))) := by
  refine q_enter (by decide +kernel) (by simp) (Nat.le_of_ble_eq_true rfl) ?_
  refine bkX11_isQuiet_0 hs ?_
  refine q_for (A := fun i m' => q_At yX11_isQuiet cX11_isQuiet 3 (some .boolean) 1 0 0 _ 2 [(2, 0), (2, s), (0, i)] [] (q_sh0, q_rb b, m')) (fun i m' => 0 ≤ i ∧ m' = m ∧ ∀ j : Int, 0 ≤ j → j < i → j < n → ¬ (0 < h j ∧ 0 < l j)) n ?_ ?_ 0 m ⟨by omega, rfl, fun j a b => absurd a (by omega)⟩
  · rintro i m' hi ⟨i0, rfl, g⟩
    exact bkX11_isQuiet_2 hs (fun _ => ⟨rfl, Or.inl ⟨rfl, fun ⟨j, a, c, d, e⟩ => g j a (by omega) c ⟨d, e⟩⟩⟩) (fun z => absurd z (by omega)) (fun z => absurd z (by omega)) (fun z => absurd z (by omega)) (fun z => absurd z (by omega)) (fun z => absurd z (by omega)) (fun z => absurd z (by omega))
  · rintro i m' hi ⟨i0, rfl, g⟩ ih
    have e1 := hh i i0 hi
    have e2 := hl i i0 hi
    have nx : ¬ (0 < h i ∧ 0 < l i) → ∀ j : Int, 0 ≤ j → j < i + 1 → j < n → ¬ (0 < h j ∧ 0 < l j) := fun z j a c d => by
      by_cases hj : j = i
      · subst hj; exact z
      · exact g j a (by omega) d
    exact bkX11_isQuiet_2 hs (fun z => absurd z (by omega)) (fun _ => by omega) (fun _ _ => q_in_of (by omega) (by omega)) (fun _ z => ih _ ⟨by omega, rfl, nx (by omega)⟩) (fun _ _ _ => q_in_of (by omega) (by omega)) (fun _ _ z => ih _ ⟨by omega, rfl, nx (by omega)⟩) (fun _ z1 z2 => ⟨rfl, Or.inr ⟨rfl, i, i0, hi, by omega, by omega⟩⟩)
theorem sp_isMovingNow {b : Int} {m : qm} {n : Nat} {h l : Int → Int} (hn : m 188 0 = n) (h9 : n ≤ 9) (hh : f_en n (m 191) h) (hl : f_en n (m 190) l) : q_Ev yX12_isMovingNow cX12_isMovingNow 2 (some .boolean) 1 0 0 [(2, 188)] (q_sh0, q_rb b, m) (qK (q_rb b) (fun r m' => m' = m ∧ ((r = 0 ∧ ¬ a_mov n h l) ∨ (r = 1 ∧ a_mov n h l)))) := by
  refine q_enter (by decide +kernel) (by simp) (Nat.le_of_ble_eq_true rfl) ?_
  refine bkX12_isMovingNow_0 ?_
  refine q_for (A := fun i m' => q_At yX12_isMovingNow cX12_isMovingNow 2 (some .boolean) 1 0 0 _ 2 [(2, 188), (0, i)] [] (q_sh0, q_rb b, m')) (fun i m' => 0 ≤ i ∧ m' = m ∧ ∀ j : Int, 0 ≤ j → j < i → j < n → ¬ (0 < h j ∧ 0 < l j)) n ?_ ?_ 0 m ⟨by omega, rfl, fun j a b => absurd a (by omega)⟩
  · rintro i m' hi ⟨i0, rfl, g⟩
    exact bkX12_isMovingNow_2 (fun _ => ⟨rfl, Or.inl ⟨rfl, fun ⟨j, a, c, d, e⟩ => g j a (by omega) c ⟨d, e⟩⟩⟩) (fun z => absurd z (by omega)) (fun z => absurd z (by omega)) (fun z => absurd z (by omega)) (fun z => absurd z (by omega)) (fun z => absurd z (by omega)) (fun z => absurd z (by omega))
  · rintro i m' hi ⟨i0, rfl, g⟩ ih
    have e1 := hh i i0 hi
    have e2 := hl i i0 hi
    have nx : ¬ (0 < h i ∧ 0 < l i) → ∀ j : Int, 0 ≤ j → j < i + 1 → j < n → ¬ (0 < h j ∧ 0 < l j) := fun z j a c d => by
      by_cases hj : j = i
      · subst hj; exact z
      · exact g j a (by omega) d
    exact bkX12_isMovingNow_2 (fun z => absurd z (by omega)) (fun _ => by omega) (fun _ _ => q_in_of (by omega) (by omega)) (fun _ z => ih _ ⟨by omega, rfl, nx (by omega)⟩) (fun _ _ _ => q_in_of (by omega) (by omega)) (fun _ _ z => ih _ ⟨by omega, rfl, nx (by omega)⟩) (fun _ z1 z2 => ⟨rfl, Or.inr ⟨rfl, i, i0, hi, by omega, by omega⟩⟩)
theorem q_st14 : q_st 14 := by unfold q_st; decide
/-! comes -/
def a_come (n : Nat) (T : a_T) (A : a_W) (j v : Int) : Nat → Nat → Int
  | 0, _ => -2
  | f + 1, w => if 0 < a_cnt (a_bells n T A w) v j then w else a_come n T A j v f (w + 1)
theorem a_come_q {B : Int} {n : Nat} {T : a_T} {A : a_W} (t : a_TV n T) (va : a_V B n T.1 A) {j v : Int} (hj : 0 ≤ j ∧ j < n) {w : Nat} (q : ¬ a_mov n T.2.2.2.1 (a_bells n T A w).1.1) (h0 : ¬ 0 < a_cnt (a_bells n T A w) v j) : ∀ f x : Nat, a_come n T A j v f (w + x) = -2
  | 0, _ => rfl
  | f + 1, x => by
    have s := (a_bells_sm t va q x).1
    have l := a_lv t (va.bells t (w + x)) hj.1 hj.2
    simp only [a_come]
    rw [s.cnt hj.1 hj.2 l.1, if_neg h0]
    exact a_come_q t va hj q h0 f (x + 1)
theorem op_comes {LW : qm → Prop} (hL : i_Lf LW) {k : Nat} {b : Int} {m : qm} (I : i_I LW k m) (hk : k ≤ 600) (j v : Int) :
    q_Ev yX11_comes cX11_comes 4 (some .int) 5 0 0 [(2, 0), (0, j), (0, v)] (q_sh0, q_rb b, m) (qK (q_rb b) (fun r m1 => q_Ev yX12_comes cX12_comes 5 (some .int) 3 0 0 [(2, 188), (0, j), (0, v)] (q_sh0, q_rb b, m1) (i_O LW (k + 1) r))) := by
  have I2 := I
  obtain ⟨n, t, p, a, x, r, s, u, kk, l⟩ := I2
  obtain ⟨T1, T2, T3⟩ := a_T_of t p
  obtain ⟨W1, W2, W3⟩ := a_N_of a
  have h9 := T3.1
  have e0 := T1.1
  generalize hA : a_of m = A at W1 W2 W3
  generalize hT : a_Tof m = T at T1 T2 T3
  have hT1 : T.1 = m 189 := by rw [← hT]; rfl
  rw [← hT1] at W3
  have l60 : ∀ j : Int, 0 ≤ j → j < n → A.1.1 j ≤ 60 := fun j a b => by have := a_lv T3 W3 a b; omega
  by_cases ok : (0 ≤ j ∧ j < n) ∧ (0 ≤ v ∧ v ≤ 6)
  · generalize hR : a_come n T A j v 201 0 = R
    refine q_Ev.post (P := fun r m1 => r = R ∧ q_fx (fun c i => 14 ≤ c ∧ c ≤ 25) m m1) ?_ ?_
    · refine q_enter (by decide +kernel) (by simp) (Nat.le_of_ble_eq_true rfl) ?_
      refine bkX11_comes_0 (fun _ _ => sp_tryAsNow T1 W1 h9 l60) (fun _ _ r3 m3 h3 _ => ?_) (fun _ z => absurd (by omega) z) (fun z => absurd (by omega) z)
      obtain ⟨w3, q3, -, f3⟩ := h3
      refine q_for' (A := fun i (_ : Unit) m' => q_At yX11_comes cX11_comes 4 (some .int) 5 0 0 _ 23 [(2, 0), (0, j), (0, v), (0, i)] [] (q_sh0, q_rb b, m')) (fun i _ m' => ∃ w f : Nat, i = w ∧ w + f = 201 ∧ c_W m' 14 n (a_bells n T A w) ∧ c_Q m' 14 n T ∧ q_fx (fun c i => 14 ≤ c ∧ c ≤ 25) m m' ∧ R = a_come n T A j v f w) 200 ?_ ?_ 0 () m3 ⟨0, 201, rfl, rfl, w3, q3, f3.mono (fun c i z => by omega), hR.symm⟩
      · rintro i _ m' hi ⟨w, f, rfl, hw, c1, c2, c3, he⟩
        have hf0 : f = 0 := by omega
        subst hf0
        exact bkX11_comes_23 (P2 := fun _ _ => True) (P4 := fun _ _ _ _ => True) (P6 := fun _ _ _ _ _ _ => True) (fun _ => ⟨he.symm, c3⟩) (fun z => absurd z (by omega)) (fun z => absurd z (by omega)) (fun z => absurd z (by omega)) (fun z => absurd z (by omega)) (fun z => absurd z (by omega)) (fun z => absurd z (by omega)) (fun z => absurd z (by omega)) (fun z => absurd z (by omega))
      · rintro i _ m' hi ⟨w, f, rfl, hw, c1, c2, c3, he⟩ ih
        have vw := W3.bells T3 w
        have lv := a_lv T3 vw ok.1.1 ok.1.2
        obtain ⟨f, rfl⟩ : ∃ g, f = g + 1 := ⟨f - 1, by omega⟩
        simp only [a_come] at he
        refine bkX11_comes_23 (P2 := fun r2 m2 => m2 = m' ∧ r2 = a_cnt (a_bells n T A w) v j) (fun z => absurd z (by omega)) (fun _ => by omega) (fun _ => ?_) (P4 := fun _ _ r4 m4 => m4 = m' ∧ ((r4 = 1 ∧ ¬ a_mov n T.2.2.2.1 (a_bells n T A w).1.1) ∨ (r4 = 0 ∧ a_mov n T.2.2.2.1 (a_bells n T A w).1.1))) ?_ (P6 := fun _ _ _ _ _ m6 => c_W m6 14 n (a_bells n T A (w + 1)) ∧ q_fx (x_St 14) m' m6) ?_ (fun _ _ _ _ _ _ _ _ _ _ _ _ _ _ _ => q_in_of (by omega) (by omega)) ?_ ?_ ?_
        · rw [show m' 17 j = _ from c1.lv j ok.1.1 ok.1.2]
          exact sp_dropsW q_st14 c1 T3 vw ok.1 (by omega)
        · rintro _ r2 m2 ⟨rfl, rfl⟩ _ _
          exact sp_isQuiet q_st14 c2.1 h9 c2.2.2.1 c1.lv
        · rintro _ r2 m2 ⟨rfl, rfl⟩ _ _ r4 m4 ⟨rfl, -⟩ _ _
          exact (sp_strikeW q_st14 c2 c1 T3 vw (by omega)).post (fun r m6 z => ⟨z.1, z.2.2⟩)
        · rintro _ r2 m2 ⟨rfl, rfl⟩ _ z2 r4 m4 ⟨rfl, -⟩ _ _ r6 m6 ⟨c6, f6⟩ _
          rw [if_neg (by omega)] at he
          exact ih () m6 ⟨w + 1, f, by omega, by omega, c6, c2.fr f6 (by unfold x_St; omega), c3.tr (f6.mono (fun c i z => by unfold x_St at z; omega)), he⟩
        · rintro _ r2 m2 ⟨rfl, rfl⟩ _ z2 r4 m4 ⟨rfl, h4⟩ _ z4
          rw [if_neg (by omega)] at he
          have q : ¬ a_mov n T.2.2.2.1 (a_bells n T A w).1.1 := by
            rcases h4 with h4 | h4
            · exact h4.2
            · exact absurd h4.1 z4
          exact ⟨by rw [he, a_come_q T3 W3 ok.1 q (by omega) f 1], c3⟩
        · rintro _ r2 m2 ⟨rfl, rfl⟩ _ z2
          rw [if_pos (by omega)] at he
          exact ⟨he.symm, c3⟩
    · rintro r1 m1 ⟨er, f1⟩
      rw [er]
      clear er r1
      have T2' := T2.fr f1 (by omega)
      have W2' := W2.fr f1 (by omega)
      have e1 := T2'.1
      refine i_O_of (b := b) (q_Ev.post (P := fun r m2 => r = R ∧ q_fx (fun c i => x_tM c i ∧ c ≠ 199 ∧ ¬ (c = 188 ∧ i = 16)) m1 m2 ∧ r_W m2 n A) ?_ ?_)
      · refine q_enter (by decide +kernel) (by simp) (Nat.le_of_ble_eq_true rfl) ?_
        have g0 : q_fx (fun c i => c = 188 ∧ i = 17) m1 (q_up m1 188 17 0) := q_fx.rf.up ⟨rfl, rfl⟩
        have W0 := W2'.fr g0 (by omega)
        refine bkX12_comes_0 (q_in_of (by omega) (by omega)) (fun _ _ => sp_lay (N := 597) qs205 (by decide) (by decide) (by decide)) (fun _ _ r3 m3 h3 _ => ?_) (fun _ z => absurd ok.2 z) (fun z => absurd (by omega) z)
        obtain ⟨y3, f3⟩ := h3
        have a3 : a_eq n (a_row (fun i => m3 205 (0 + i))) A := W0.lay h9 l60 y3
        have W3' := W0.fr f3 (by omega)
        have T3' := (T2'.fr g0 (by omega)).fr f3 (by omega)
        have fin : ∀ m' : qm, q_fx x_Go m3 m' → q_Ev yX12_bring cX12_bring 5 none 1 0 0 [(2, 188), (2, 205), (0, 0)] (q_sh0, q_rb b, m') (qK (q_rb b) (fun _ m2 => q_fx (fun c i => x_tM c i ∧ c ≠ 199 ∧ ¬ (c = 188 ∧ i = 16)) m1 m2 ∧ r_W m2 n A)) := by
          intro m' f'
          refine (sp_bring (N := 597) qs205 (by decide) (by decide) (by decide)).post ?_
          rintro r m2 ⟨y2, f2⟩
          refine ⟨((g0.mono (fun c i z => by unfold x_tM; omega)).tr (f3.mono (fun c i z => by unfold x_tM; omega))).tr ((f'.mono (fun c i z => by unfold x_Go at z; unfold x_tM; omega)).tr (f2.mono (fun c i z => by unfold x_tM; omega))), ?_⟩
          have : (fun i => m' 205 (0 + i)) = fun i => m3 205 (0 + i) := funext fun i => f' _ _ (by unfold x_Go; omega)
          rw [this] at y2
          exact r_W.bring h9 l60 y2 a3
        have done : ∀ (w : Nat) (m' : qm), (w : Int) ≤ 201 → q_fx x_Go m3 m' → R ≠ -2 → q_At yX12_comes cX12_comes 5 (some .int) 3 0 0 (qK (q_rb b) (fun r m2 => r = R ∧ q_fx (fun c i => x_tM c i ∧ c ≠ 199 ∧ ¬ (c = 188 ∧ i = 16)) m1 m2 ∧ r_W m2 n A)) 37 [(2, 188), (0, j), (0, v), (0, R), (0, (w : Int))] [] (q_sh0, q_rb b, m') := by
          intro w m' hw f' hne
          exact bkX12_comes_37 (P5 := fun _ _ => True) (P7 := fun _ _ _ _ => True) (P8 := fun _ _ _ _ => True) (fun _ => fin m' f') (fun _ _ m2 z _ => ⟨rfl, z⟩) (fun _ _ => fin m' f') (fun _ _ _ m2 z _ => ⟨rfl, z⟩) (fun _ z => absurd z hne) (fun _ z => absurd z hne) (fun _ z => absurd z hne) (fun _ z => absurd z hne) (fun _ z => absurd z hne) (fun _ z => absurd z hne) (fun _ z => absurd z hne)
        refine q_for' (A := fun i (_ : Unit) m' => q_At yX12_comes cX12_comes 5 (some .int) 3 0 0 _ 37 [(2, 188), (0, j), (0, v), (0, -2), (0, i)] [] (q_sh0, q_rb b, m')) (fun i _ m' => ∃ w f : Nat, i = w ∧ w + f = 201 ∧ r_W m' n (a_bells n T A w) ∧ q_fx x_Go m3 m' ∧ R = a_come n T A j v f w) 200 ?_ ?_ 0 () m3 ⟨0, 201, rfl, rfl, W3', q_fx.rf, hR.symm⟩
        · rintro i _ m' hi ⟨w, f, rfl, hw, c1, c3, he⟩
          have hf0 : f = 0 := by omega
          subst hf0
          exact bkX12_comes_37 (P4 := fun _ _ => True) (P5 := fun _ _ => True) (P7 := fun _ _ _ _ => True) (P8 := fun _ _ _ _ => True) (fun _ => fin m' c3) (fun _ _ m2 z _ => ⟨he.symm, z⟩) (fun z => absurd z (by omega)) (fun z => absurd z (by omega)) (fun z => absurd z (by omega)) (fun z => absurd z (by omega)) (fun z => absurd z (by omega)) (fun z => absurd z (by omega)) (fun z => absurd z (by omega)) (fun z => absurd z (by omega)) (fun z => absurd z (by omega))
        · rintro i _ m' hi ⟨w, f, rfl, hw, c1, c3, he⟩ ih
          have vw := W3.bells T3 w
          have tw := T3'.fr c3 (by unfold x_Go; omega)
          obtain ⟨f, rfl⟩ : ∃ g, f = g + 1 := ⟨f - 1, by omega⟩
          simp only [a_come] at he
          refine bkX12_comes_37 (P2 := fun _ _ => True) (P4 := fun _ _ => True) (P5 := fun r2 m2 => m2 = m' ∧ r2 = a_cnt (a_bells n T A w) v j) (P7 := fun _ _ _ m6 => r_W m6 n (a_bells n T A (w + 1)) ∧ q_fx x_Go m' m6) (P8 := fun _ _ _ m6 => r_W m6 n (a_bells n T A (w + 1)) ∧ q_fx x_Go m' m6) (fun z => absurd z (by omega)) (fun z => absurd z (by omega)) (fun _ z => absurd rfl z) (fun _ z => absurd rfl z) (fun _ _ => sp_shareOf c1 T3 vw ok.1) ?_ (fun _ _ _ _ _ _ _ _ _ _ _ => q_in_of (by omega) (by omega)) ?_ ?_ (fun _ _ _ _ _ _ _ _ _ _ _ => q_in_of (by omega) (by omega)) ?_
          · rintro _ _ r2 m2 ⟨rfl, rfl⟩ _ _
            exact (sp_goBellW tw c1 T3 vw (by omega)).post (fun r m6 z => ⟨z.1, z.2.2⟩)
          · rintro _ _ r2 m2 ⟨rfl, rfl⟩ _ z2 r6 m6 ⟨c6, f6⟩ _
            rw [if_neg (by omega)] at he
            exact ih () m6 ⟨w + 1, f, by omega, by omega, c6, c3.tr f6, he⟩
          · rintro _ _ r2 m2 ⟨rfl, rfl⟩ _ _
            exact (sp_goBellW tw c1 T3 vw (by omega)).post (fun r m6 z => ⟨z.1, z.2.2⟩)
          · rintro _ _ r2 m2 ⟨rfl, rfl⟩ _ z2 r6 m6 ⟨c6, f6⟩ _
            rw [if_pos (by omega)] at he
            have := done (w + 1) m6 (by omega) (c3.tr f6) (by omega)
            rw [he, show ((w + 1 : Nat) : Int) = (w : Int) + 1 by omega] at this
            rw [he]
            exact this
      · rintro r2 m2 ⟨rfl, f2, w2⟩
        refine ⟨rfl, i_I.look hL t p a x s u kk l (f1.mono (fun c i z => Or.inl ⟨z.1, Int.le_trans z.2 (by decide)⟩)) (f2.mono (fun c i z => z.1)) (by rw [hA]; exact w2) ?_⟩
        exact (r.fr f1 (by intro c i; unfold x_R; omega)).fr f2 (by intro c i; unfold x_R x_tM; omega)
  · refine q_enter (by decide +kernel) (by simp) (Nat.le_of_ble_eq_true rfl) ?_
    have no : q_Ev yX12_comes cX12_comes 5 (some .int) 3 0 0 [(2, 188), (0, j), (0, v)] (q_sh0, q_rb b, m) (i_O LW (k + 1) (-1)) := by
      have e1 := T2.1
      refine i_O_of (b := b) (q_enter (by decide +kernel) (by simp) (Nat.le_of_ble_eq_true rfl) ?_)
      exact bkX12_comes_0 (P3 := fun _ _ => True) (q_in_of (by omega) (by omega)) (fun z1 z2 => absurd (by omega) ok) (fun z1 z2 => absurd (by omega) ok) (fun _ _ => ⟨rfl, I.no hL⟩) (fun _ => ⟨rfl, I.no hL⟩)
    exact bkX11_comes_0 (P3 := fun _ _ => True) (fun z1 z2 => absurd (by omega) ok) (fun z1 z2 => absurd (by omega) ok) (fun _ _ => no) (fun _ => no)
