/-! ===== place ===== -/
def a_ub (T : a_T) (j b : Int) : Int → Int := fun i => if i = j then b else T.2.2.2.2 i
theorem a_ub_ok {B : Int} {n : Nat} {T : a_T} {A : a_W} (t : a_TV n T) (v : a_V B n T.1 A) {j b : Int} (hb : b = -1 ∨ (0 ≤ b ∧ b < n)) : f_OK n (a_ub T j b) T.1 T.2.2.2.1 (a_x0 A) := by
  have ok := a_OK0 t v
  refine ⟨ok.1, fun i a c => ?_⟩
  have z := ok.2 i a c
  refine ⟨?_, z.2⟩
  show (if i = j then b else T.2.2.2.2 i) = -1 ∨ (0 ≤ (if i = j then b else T.2.2.2.2 i) ∧ (if i = j then b else T.2.2.2.2 i) < n)
  split
  · exact hb
  · exact z.1
def a_pl (G : Int → f_S) (ht : Int → Int) (j : Int) : Nat → Int × Int
  | 0 => (-1, (G (-1)).2.2)
  | k + 1 => if ht k < ht j ∧ (G k).2.2 < (a_pl G ht j k).2 then ((k : Int), (G k).2.2) else a_pl G ht j k
theorem q_fx_back {X : Int → Int → Prop} {m m' : qm} {c j : Int} (h : q_fx (fun c' i => X c' i ∨ (c' = c ∧ i = j)) m m') : q_fx X m (q_up m' c j (m c j)) := by
  intro c' i z
  by_cases e : c' = c ∧ i = j
  · obtain ⟨rfl, rfl⟩ := e; exact q_up_s
  · by_cases e1 : c' = c
    · subst e1; rw [q_up_i (fun y => e ⟨rfl, y⟩)]; exact h _ _ (fun y => y.elim z e)
    · rw [q_up_c e1]; exact h _ _ (fun y => y.elim z e)
theorem op_place {LW : qm → Prop} (hL : i_Lf LW) {k : Nat} {b : Int} {m : qm} (I : i_I LW k m) (j v : Int) :
    q_Ev yX11_place cX11_place 7 (some .int) 5 0 0 [(2, 0), (0, j), (0, v)] (q_sh0, q_rb b, m) (qK (q_rb b) (fun r m1 => q_Ev yX12_place cX12_place 8 (some .int) 3 0 0 [(2, 188), (0, j), (0, v)] (q_sh0, q_rb b, m1) (i_O LW (k + 1) r))) := by
  obtain ⟨n, en, T1, T3, W1, W3, K⟩ := i_knowT I
  have h9 := T3.1
  have e0 := T1.1
  generalize hA : a_of m = A at W1 W3 K
  generalize hT : a_Tof m = T at T1 T3 W3 K
  by_cases ok : (0 ≤ j ∧ j < n) ∧ (0 ≤ v ∧ v ≤ 200)
  · obtain ⟨okj, okv⟩ := ok
    obtain ⟨q, rfl⟩ : ∃ q : Nat, v = q := ⟨v.toNat, by omega⟩
    have okd : ∀ d : Int, (d = -1 ∨ (0 ≤ d ∧ d < n)) → f_OK n (a_ub T j d) T.1 T.2.2.2.1 (a_x0 A) := fun d a => a_ub_ok T3 W3 a
    generalize hG : (fun d => f_it n (a_ub T j d) T.1 T.2.2.2.1 q (a_x0 A)) = G
    have hG' : ∀ d, f_it n (a_ub T j d) T.1 T.2.2.2.1 q (a_x0 A) = G d := fun d => by rw [← hG]
    generalize hR : a_pl G T.2.2.1 j n = R
    refine i_joinT hL I en hA (R := R.2) (o := some [R.1]) (fun l z => by cases z; simp) ?_ ?_
    · have lw : ∀ (m' : qm) (d : Int), (d = -1 ∨ (0 ≤ d ∧ d < n)) → q_fx x_f m m' → q_Ev yX11_lostWithBelow cX11_lostWithBelow 4 (some .int) 4 0 0 [(2, 0), (0, j), (0, d), (0, (q : Int))] (q_sh0, q_rb b, m') (qK (q_rb b) (fun r m2 => r = (G d).2.2 ∧ q_fx x_f m m2)) := by
        intro m' d hd fx
        have T1' := T1.fr fx (by unfold x_f; omega)
        have W1' := W1.fr fx (by unfold x_f w_z; omega)
        refine q_enter (by decide +kernel) (by simp) (Nat.le_of_ble_eq_true rfl) ?_
        refine bkX11_lostWithBelow_0 (P2 := fun _ m2 _ m3 => f_cl n m3 (a_ub T j d) T.1 T.2.2.2.1 (G d) ∧ q_fx x_f m' m3) (sp_startW T1' W1' h9) (fun _ _ _ _ => by omega) ?_ ?_
        · rintro r2 m2 ⟨g1, -, f2⟩ _
          have fu : q_fx (fun c i => c = 29 ∧ i = j) m2 (q_up m2 29 j d) := q_fx.rf.up ⟨rfl, rfl⟩
          have c : f_c0 n (q_up m2 29 j d) (a_ub T j d) T.1 T.2.2.2.1 (a_x0 A) := by
            obtain ⟨g1, g2, g3, g4, g5, g6⟩ := g1
            refine ⟨(fu _ _ (by omega)).trans g1, (fu _ _ (by omega)).trans g2, fun i a b => ?_, fun i a b => (fu _ _ (by omega)).trans (g4 i a b), fun i a b => (fu _ _ (by omega)).trans (g5 i a b), fun i a b => ⟨(fu _ _ (by omega)).trans (g6.1 i a b).1, (fu _ _ (by omega)).trans (g6.1 i a b).2⟩, (fu _ _ (by omega)).trans g6.2⟩
            show _ = if i = j then d else T.2.2.2.2 i
            by_cases hi : i = j
            · subst hi; rw [q_up_s, if_pos rfl]
            · rw [q_up_i hi, if_neg hi]; exact g3 i a b
          rw [← hG']
          refine (sp_allF (c.cl (okd d hd)) q (by have e : (a_x0 A).2.2 = 0 := rfl; omega)).post (fun r m3 z => ⟨z.1, ?_⟩)
          exact (f2.tr (fu.mono (fun c i z => by unfold x_f; omega))).tr (z.2.mono (fun c i z => by unfold x_f; omega))
        · rintro r2 m2 _ _ r3 m3 ⟨c3, f3⟩ _
          exact ⟨c3.lo, fx.tr f3⟩
      refine q_enter (by decide +kernel) (by simp) (Nat.le_of_ble_eq_true rfl) ?_
      refine bkX11_place_0 (fun _ _ => lw m (-1) (Or.inl rfl) q_fx.rf) ?_ (fun _ z => absurd okv z) (fun z => absurd (by omega) z)
      rintro _ _ r3 m3 ⟨rfl, f3⟩ _
      refine q_for1 (A := fun i (x : Int × Int) m' => q_At yX11_place cX11_place 7 (some .int) 5 0 0 _ 31 [(2, 0), (0, j), (0, (q : Int)), (0, x.1), (0, x.2), (0, i), (4, 0)] [] (q_sh0, q_rb b, m')) (fun i x m' => ∃ y : Nat, i = y ∧ y ≤ n ∧ x = a_pl G T.2.2.1 j y ∧ q_fx x_f m m') n ?_ ?_ 0 (-1, (G (-1)).2.2) m3 ⟨0, rfl, by omega, rfl, f3⟩
      · rintro i x m' hi ⟨y, rfl, hy, rfl, fx⟩
        have : y = n := by omega
        subst this
        have t1 := (T1.fr fx (by unfold x_f; omega)).1
        refine bkX11_place_31 (P5 := fun _ _ => True) (fun _ => by decide) (fun _ => ?_) (fun z => absurd z (by omega)) (fun z => absurd z (by omega)) (fun z => absurd z (by omega)) (fun z => absurd z (by omega)) (fun z => absurd z (by omega)) (fun z => absurd z (by omega)) (fun z => absurd z (by omega)) (fun z => absurd z (by omega))
        rw [hR]
        have h1 := i_rw.tell (v := R.1) (i_rw.clear (m := m') (q_fx.rf (X := x_F)))
        rw [show (q_up m' 0 16 0) 0 16 = 0 from q_up_s] at h1
        exact ⟨rfl, (fx.mono x_f_tC).tr (h1.1.mono x_F_tC), h1.2.1, h1.2.2⟩
      · rintro i x m' hi ⟨y, rfl, hy, rfl, fx⟩ ih
        have T1' := T1.fr fx (by unfold x_f; omega)
        have t1 := T1'.1
        have hy1 := T1'.2.2.2.1 y (by omega) (by omega)
        have hj1 := T1'.2.2.2.1 j okj.1 okj.2
        refine bkX11_place_31 (P5 := fun r m2 => r = (G y).2.2 ∧ q_fx x_f m m2) (fun z => absurd z (by omega)) (fun z => absurd z (by omega)) (fun _ => ⟨by omega, by omega, by omega⟩) (fun _ _ => lw m' y (Or.inr ⟨by omega, by omega⟩) fx) (fun _ _ _ _ _ _ _ => q_in_of (by omega) (by omega)) ?_ (fun _ _ _ _ _ _ _ => q_in_of (by omega) (by omega)) ?_ (fun _ _ => q_in_of (by omega) (by omega)) (fun _ z => ?_)
        · rintro _ z r5 m5 ⟨rfl, f5⟩ _ hz
          exact ih _ m5 ⟨y + 1, by omega, by omega, by simp only [a_pl]; rw [if_neg (by omega)], f5⟩
        · rintro _ z r5 m5 ⟨rfl, f5⟩ _ hz
          exact ih ((y : Int), (G y).2.2) m5 ⟨y + 1, by omega, by omega, by simp only [a_pl]; rw [if_pos (by omega)], f5⟩
        · exact ih _ m' ⟨y + 1, by omega, by omega, by simp only [a_pl]; rw [if_neg (by omega)], fx⟩
    · intro m1 f1
      obtain ⟨T2, W2⟩ := K m1 f1
      have e1 := T2.1
      have g0 : q_fx (fun c i => c = 188 ∧ i = 17) m1 (q_up m1 188 17 0) := q_fx.rf.up ⟨rfl, rfl⟩
      have bg : ∀ (m' : qm) (d : Int), (d = -1 ∨ (0 ≤ d ∧ d < n)) → q_fx (fun c' i => x_g7 c' i ∨ (c' = 194 ∧ i = j)) m1 m' → q_Ev yX12_begin_ cX12_begin_ 2 none 1 0 0 [(2, 188)] (q_sh0, q_rb b, q_up m' 194 j d) (qK (q_rb b) (fun _ m2 => f_rl n m2 (a_ub T j d) T.1 T.2.2.2.1 (a_x0 A) 0 ∧ q_fx (fun c' i => x_g7 c' i ∨ (c' = 194 ∧ i = j)) m1 m2)) := by
        intro m' d hd fx
        have fu : q_fx (fun c i => c = 194 ∧ i = j) m' (q_up m' 194 j d) := q_fx.rf.up ⟨rfl, rfl⟩
        have W2' := (W2.fr fx (by unfold x_g7 x_g; omega)).fr fu (by omega)
        have T2' : r_T (q_up m' 194 j d) n (T.1, T.2.1, T.2.2.1, T.2.2.2.1, a_ub T j d) := by
          have e : ∀ c i, (c = 188 ∧ i = 0) ∨ c = 189 ∨ (191 ≤ c ∧ c ≤ 193) → (q_up m' 194 j d) c i = m1 c i := fun c i z => (fu _ _ (by omega)).trans (fx _ _ (by unfold x_g7 x_g; omega))
          obtain ⟨a1, a2, a3, a4, a5, a6⟩ := T2
          refine ⟨(e _ _ (by omega)).trans a1, fun i a b => (e _ _ (by omega)).trans (a2 i a b), fun i a b => (e _ _ (by omega)).trans (a3 i a b), fun i a b => (e _ _ (by omega)).trans (a4 i a b), fun i a b => (e _ _ (by omega)).trans (a5 i a b), fun i a b => ?_⟩
          show _ = if i = j then d else T.2.2.2.2 i
          by_cases hi : i = j
          · subst hi; rw [q_up_s, if_pos rfl]
          · rw [q_up_i hi, if_neg hi]; exact (fx _ _ (by unfold x_g7 x_g; omega)).trans (a6 i a b)
        refine (sp_beginW T2' W2' h9).post (fun r m2 z => ⟨z.1, ?_⟩)
        exact (fx.tr (fu.mono (fun c i z => Or.inr z))).tr (z.2.mono (fun c i z => by unfold x_g7 x_g; omega))
      have gn : ∀ (m2 : qm) (d : Int), (d = -1 ∨ (0 ≤ d ∧ d < n)) → f_rl n m2 (a_ub T j d) T.1 T.2.2.2.1 (a_x0 A) 0 ∧ q_fx (fun c' i => x_g7 c' i ∨ (c' = 194 ∧ i = j)) m1 m2 → q_Ev yX12_goOn_ cX12_goOn_ 4 (some .int) 2 0 0 [(2, 188), (0, (q : Int))] (q_sh0, q_rb b, m2) (qK (q_rb b) (fun r m3 => r = (G d).2.2 ∧ q_fx (fun c' i => x_g7 c' i ∨ (c' = 194 ∧ i = j)) m1 m3)) := by
        rintro m2 d hd ⟨g1, f2⟩
        rw [← hG']
        exact (sp_goOnNF g1 (okd d hd) q (by omega)).post (fun r m3 z => ⟨z.1.lo, f2.tr (z.2.mono (fun c i z => by unfold f_X at z; unfold x_g7 x_g; omega))⟩)
      refine q_enter (by decide +kernel) (by simp) (Nat.le_of_ble_eq_true rfl) ?_
      refine bkX12_place_0 (q_in_of (by omega) (by omega)) (fun _ _ => by omega) (fun _ _ => ?_) (fun _ z => absurd okv z) (fun z => absurd (by omega) z)
      have f0 : q_fx (fun c' i => x_g7 c' i ∨ (c' = 194 ∧ i = j)) m1 (q_up m1 188 17 0) := g0.mono (fun c i z => Or.inl (Or.inr z))
      have hin : ∀ i : Int, -1 ≤ i → i < n → q_in32 (i + 1) := fun i a b => q_in_of (by omega) (by omega)
      have go : ∀ (m' : qm), q_fx (fun c' i => x_g7 c' i ∨ (c' = 194 ∧ i = j)) m1 m' → q_At yX12_place cX12_place 8 (some .int) 3 0 0 (qK (q_rb b) (fun r m2 => r = R.2 ∧ q_fx x_tM m1 m2 ∧ r_W m2 n A ∧ i_rr m1 m2 (some [R.1]))) 38 [(2, 188), (0, j), (0, (q : Int)), (0, m1 194 j), (0, -1), (0, (G (-1)).2.2), (0, 0), (4, 0)] [] (q_sh0, q_rb b, m') := by
        intro m3 f3
        refine q_for1 (A := fun i (x : Int × Int) m' => q_At yX12_place cX12_place 8 (some .int) 3 0 0 _ 38 [(2, 188), (0, j), (0, (q : Int)), (0, m1 194 j), (0, x.1), (0, x.2), (0, i), (4, 0)] [] (q_sh0, q_rb b, m')) (fun i x m' => ∃ y : Nat, i = y ∧ y ≤ n ∧ x = a_pl G T.2.2.1 j y ∧ q_fx (fun c' i => x_g7 c' i ∨ (c' = 194 ∧ i = j)) m1 m') n ?_ ?_ 0 (-1, (G (-1)).2.2) m3 ⟨0, rfl, by omega, rfl, f3⟩
        · rintro i x m' hi ⟨y, rfl, hy, rfl, fx⟩
          have : y = n := by omega
          subst this
          have t1 : m' 188 0 = y := (fx _ _ (by unfold x_g7 x_g; omega)).trans e1
          refine bkX12_place_38 (P4 := fun _ _ => True) (P5 := fun _ _ _ _ => True) (P9 := fun _ _ => True) (P10 := fun _ _ _ _ => True) (fun _ => ⟨by omega, by decide⟩) (fun _ => ?_) (fun z => absurd z (by omega)) (fun z => absurd z (by omega)) (fun z => absurd z (by omega)) (fun z => absurd z (by omega)) (fun z => absurd z (by omega)) (fun z => absurd z (by omega)) (fun z => absurd z (by omega)) (fun z => absurd z (by omega)) (fun z => absurd z (by omega)) (fun z => absurd z (by omega)) (fun z => absurd z (by omega)) (fun z => absurd z (by omega)) (fun z => absurd z (by omega)) (fun z => absurd z (by omega)) (fun z => absurd z (by omega)) (fun z => absurd z (by omega)) (fun z => absurd z (by omega)) (fun z => absurd z (by omega)) (fun z => absurd z (by omega)) (fun z => absurd z (by omega))
          rw [hR]
          have fb := q_fx_back fx
          have h1 := i_mw.tell (v := R.1) (i_mw.clear (m := q_up m' 194 j (m1 194 j)) (q_fx.rf (X := x_G)))
          rw [show (q_up (q_up m' 194 j (m1 194 j)) 188 16 0) 188 16 = 0 from q_up_s] at h1
          exact ⟨rfl, (fb.mono x_g7_tM).tr (h1.1.mono x_G_tM), (W2.fr fb (by unfold x_g7 x_g; omega)).fr h1.1 (by unfold x_G; omega), h1.2.1, h1.2.2⟩
        · rintro i x m' hi ⟨y, rfl, hy, rfl, fx⟩ ih
          have t1 : m' 188 0 = n := (fx _ _ (by unfold x_g7 x_g; omega)).trans e1
          have hy1 : m' 193 y = T.2.2.1 y := (fx _ _ (by unfold x_g7 x_g; omega)).trans (T2.2.2.2.1 y (by omega) (by omega))
          have hj1 : m' 193 j = T.2.2.1 j := (fx _ _ (by unfold x_g7 x_g; omega)).trans (T2.2.2.2.1 j okj.1 okj.2)
          have hn1 : (y : Int) ≠ -1 := by omega
          have hi1 := hin y (by omega) (by omega)
          have hyb : (y : Int) = -1 ∨ (0 ≤ (y : Int) ∧ (y : Int) < n) := Or.inr ⟨by omega, by omega⟩
          refine bkX12_place_38 (P4 := fun _ _ => True) (P5 := fun _ _ _ _ => True) (P9 := fun _ m2 => f_rl n m2 (a_ub T j y) T.1 T.2.2.2.1 (a_x0 A) 0 ∧ q_fx (fun c' i => x_g7 c' i ∨ (c' = 194 ∧ i = j)) m1 m2) (P10 := fun _ _ r m3 => r = (G y).2.2 ∧ q_fx (fun c' i => x_g7 c' i ∨ (c' = 194 ∧ i = j)) m1 m3) (fun z => absurd z (by omega)) (fun z => absurd z (by omega)) (fun _ z => absurd z hn1) (fun _ z => absurd z hn1) (fun _ z => absurd z hn1) (fun _ z => absurd z hn1) (fun _ z => absurd z hn1) (fun _ z => absurd z hn1) (fun _ z => absurd z hn1) (fun _ z => absurd z hn1) (fun _ z => absurd z hn1)
            (fun _ _ => ⟨by omega, by omega⟩) (fun _ _ _ => bg m' y hyb fx) (fun _ _ _ _ m9 h9 _ => gn m9 y hyb h9) (fun _ _ _ _ _ _ _ _ _ _ _ _ => hi1) (fun _ _ _ _ _ _ _ _ _ _ _ z => absurd z hn1) (fun _ _ _ _ _ _ _ _ _ _ _ _ _ => hi1) ?_ (fun _ _ _ _ _ _ _ _ _ _ _ _ _ => hi1) ?_ (fun _ _ _ => hi1) (fun _ _ z => ?_)
          · rintro _ _ hz r9 m9 _ _ r10 m10 ⟨rfl, f10⟩ _ _ hlt
            exact ih ((y : Int), (G y).2.2) m10 ⟨y + 1, by omega, by omega, by simp only [a_pl]; rw [if_pos (by omega)], f10⟩
          · rintro _ _ hz r9 m9 _ _ r10 m10 ⟨rfl, f10⟩ _ _ hlt
            exact ih _ m10 ⟨y + 1, by omega, by omega, by simp only [a_pl]; rw [if_neg (by omega)], f10⟩
          · exact ih _ m' ⟨y + 1, by omega, by omega, by simp only [a_pl]; rw [if_neg (by omega)], fx⟩
      have e00 : (q_up m1 188 17 0) 188 0 = n := (g0 _ _ (by omega)).trans e1
      exact bkX12_place_38 (P4 := fun _ m2 => f_rl n m2 (a_ub T j (-1)) T.1 T.2.2.2.1 (a_x0 A) 0 ∧ q_fx (fun c' i => x_g7 c' i ∨ (c' = 194 ∧ i = j)) m1 m2) (P5 := fun _ _ r m3 => r = (G (-1)).2.2 ∧ q_fx (fun c' i => x_g7 c' i ∨ (c' = 194 ∧ i = j)) m1 m3) (P9 := fun _ _ => True) (P10 := fun _ _ _ _ => True) (fun z => absurd z (by omega)) (fun z => absurd z (by omega)) (fun _ _ => by omega) (fun _ _ => bg _ (-1) (Or.inl rfl) f0) (fun _ _ _ m9 h9 _ => gn m9 (-1) (Or.inl rfl) h9) (fun _ _ _ _ _ _ _ _ _ _ _ => q_in_of (by decide) (by decide)) (fun _ _ _ _ _ _ r5 m5 h5 _ _ => by rw [h5.1]; exact go m5 h5.2) (fun _ _ _ _ _ _ _ _ _ _ z => absurd rfl z) (fun _ _ _ _ _ _ _ _ _ _ z => absurd rfl z) (fun _ _ _ _ _ _ _ _ _ _ z => absurd rfl z) (fun _ _ _ _ _ _ _ _ _ _ z => absurd rfl z) (fun _ z => absurd rfl z) (fun _ z => absurd rfl z) (fun _ z => absurd rfl z) (fun _ z => absurd rfl z) (fun _ z => absurd rfl z) (fun _ z => absurd rfl z) (fun _ z => absurd rfl z) (fun _ z => absurd rfl z) (fun _ z => absurd rfl z) (fun _ z => absurd rfl z) (fun _ z => absurd rfl z)
  · refine i_joinT hL I en hA (R := -1) (o := none) (fun l z => by cases z) ?_ ?_
    · refine q_enter (by decide +kernel) (by simp) (Nat.le_of_ble_eq_true rfl) ?_
      exact bkX11_place_0 (P3 := fun _ _ => True) (fun z1 z2 => absurd (by omega) ok) (fun z1 z2 => absurd (by omega) ok) (fun _ _ => ⟨rfl, q_fx.rf, rfl, fun _ => rfl⟩) (fun _ => ⟨rfl, q_fx.rf, rfl, fun _ => rfl⟩)
    · intro m1 f1
      have K1 := K m1 f1
      have e1 := K1.1.1
      refine q_enter (by decide +kernel) (by simp) (Nat.le_of_ble_eq_true rfl) ?_
      exact bkX12_place_0 (q_in_of (by omega) (by omega)) (fun z1 z2 => absurd (by omega) ok) (fun z1 z2 => absurd (by omega) ok) (fun _ _ => ⟨rfl, r_no (m := m) K1⟩) (fun _ => ⟨rfl, r_no (m := m) K1⟩)
