theorem a_lk_2 {wr : Int → Int} : ∀ y : Nat, 0 < y → (a_lk wr y).2 = wr (a_lk wr y).1
  | 0, h => absurd h (by omega)
  | y + 1, _ => by
    simp only [a_lk]
    split
    · rfl
    · rename_i h
      exact a_lk_2 (wr := wr) y (by omega)
theorem op_looks {LW : qm → Prop} (hL : i_Lf LW) {k : Nat} {b : Int} {m : qm} (I : i_I LW k m) (v : Int) :
    q_Ev yX11_looks cX11_looks 7 (some .int) 5 0 0 [(2, 0), (0, v)] (q_sh0, q_rb b, m) (qK (q_rb b) (fun r m1 => q_Ev yX12_looks cX12_looks 13 (some .int) 3 0 0 [(2, 188), (0, v)] (q_sh0, q_rb b, m1) (i_O LW (k + 1) r))) := by
  obtain ⟨n, B, T1, T3, W1, W3, K⟩ := i_know I
  have W3 : a_V (1500 * k) n (a_Tof m).1 (a_of m) := W3
  have h9 := T3.1
  have e0 := T1.1
  generalize hA : a_of m = A at W1 W3 K
  generalize hT : a_Tof m = T at T1 T3 W3 K
  by_cases ok : 0 ≤ v ∧ v ≤ 200
  · by_cases hn : n = 0
    · refine i_joinS hL I (R := -2) (o := none) (fun l z => by cases z) ?_ ?_
      · refine q_enter (by decide +kernel) (by simp) (Nat.le_of_ble_eq_true rfl) ?_
        exact bkX11_looks_0 (P3 := fun _ _ => True) (fun _ z => absurd (by omega) z) (fun _ z => absurd (by omega) z) (fun _ z => absurd (by omega) z) (fun _ _ => ⟨rfl, q_fx.rf, rfl, fun _ => rfl⟩) (fun z => absurd ok z)
      · intro m1 f1
        have e1 := (K m1 f1).1.1
        refine q_enter (by decide +kernel) (by simp) (Nat.le_of_ble_eq_true rfl) ?_
        exact bkX12_looks_0 (fun _ z => absurd (by omega) z) (fun _ _ => ⟨rfl, x_Sr0, i_g0r⟩) (fun z => absurd ok z)
    · obtain ⟨q, rfl⟩ : ∃ q : Nat, v = q := ⟨v.toNat, by omega⟩
      have fw := sp_findWays (b := b) (q := q) T1 W1 T3 W3 hn (by omega)
      have hGd : ∀ d, a_lG n T A q d = f_it n T.2.2.2.2 T.1 (if d = -1 then T.2.2.2.1 else a_ho T d (T.2.2.2.1 d + 1)) q (a_x0 A) := fun d => rfl
      generalize hG : a_lG n T A q = G at fw hGd
      have lyn := a_ly_in (G := G) (h := T.2.2.2.1)
      obtain ⟨kk, hkk⟩ : ∃ kk : Nat, (kk : Int) = (a_ly G T.2.2.2.1 n).1 := ⟨(a_ly G T.2.2.2.1 n).1.toNat, by have := lyn n; omega⟩
      have hk9 : kk ≤ 9 := by have := lyn n; omega
      obtain ⟨fr, hfr⟩ : ∃ fr : Int → Int → Int, ∀ j i, fr j i = if i = (kk : Int) then (G (-1)).1 j else (a_ly G T.2.2.2.1 n).2 i j := ⟨_, fun _ _ => rfl⟩
      obtain ⟨fc, hfc⟩ : ∃ fc : Int → Int → Int, ∀ j i, fc j i = if i = 0 then (G (-1)).1 j else (a_ly G T.2.2.2.1 n).2 (i - 1) j := ⟨_, fun _ _ => rfl⟩
      have rot : ∀ j, a_wr (fc j) (kk + 1) (kk + 1) = a_wr (fr j) (kk + 1) (kk + 1) ∧ a_un (fc j) (kk + 1) = a_un (fr j) (kk + 1) := fun j => a_rot (fun i a c => by rw [hfc, hfr, if_neg (by omega), if_neg (by omega), show i + 1 - 1 = i by omega]) (by rw [hfc, hfr, if_pos rfl, if_pos rfl])
      obtain ⟨wr, hwr⟩ : ∃ wr : Int → Int, ∀ j, wr j = a_wr (fr j) (kk + 1) (kk + 1) := ⟨_, fun _ => rfl⟩
      have wrin : ∀ j, 0 ≤ wr j ∧ wr j ≤ kk + 1 := fun j => by rw [hwr]; have := a_wr_nn (f := fr j) (K := kk + 1) (kk + 1); omega
      have lk := a_lk_in (wr := wr)
      generalize hR : a_lk wr n = R
      have lkn := lk n (by omega)
      rw [hR] at lkn
      refine i_joinS hL I (R := R.1) (o := some [R.2, a_un (fr R.1) (kk + 1)]) (fun l z => by cases z; simp) ?_ ?_
      · refine q_enter (by decide +kernel) (by simp) (Nat.le_of_ble_eq_true rfl) ?_
        refine bkX11_looks_0 (fun _ _ => fw) (fun _ _ r3 m3 h3 _ => by rw [h3.1]; exact q_in_of (by omega) (by omega)) ?_ (fun _ z => absurd z (by omega)) (fun z => absurd ok z)
        rintro _ _ r3 m3 ⟨rfl, h1, h2, f3⟩ _
        rw [← hkk] at h2 ⊢
        have hm : ∀ (m' : qm), (∀ i, m' 168 i = m3 168 i) → ∀ j : Int, 0 ≤ j → j < n → ∀ i : Int, 0 ≤ i → i < (kk + 1 : Nat) → m' 168 (i * 9 + j) = fc j i := by
          intro m' em j j0 j1 i i0 i1
          rw [em, hfc]
          by_cases hi : i = 0
          · rw [if_pos hi, hi, show 0 * 9 + j = j by omega]; exact h1 j j0 j1
          · rw [if_neg hi]
            have := h2 (i - 1) j (by omega) (by omega) j0 j1
            rw [show i - 1 + 1 = i by omega] at this
            exact this
        have t3 : m3 1 3 = n := (f3 _ _ (by unfold x_lC x_F; omega)).trans e0
        have fin : ∀ (v3 v4 : Int), (v3, v4) = R → q_At yX11_looks cX11_looks 7 (some .int) 5 0 0 (qK (q_rb b) (fun r m1 => r = R.1 ∧ q_fx x_Sc m m1 ∧ i_rc m m1 (some [R.2, a_un (fr R.1) (kk + 1)]))) 38 [(2, 0), (0, (q : Int)), (0, (kk : Int) + 1), (0, v3), (0, v4), (0, (n : Int)), (4, 0)] [] (q_sh0, q_rb b, m3) := by
          rintro v3 v4 rfl
          have h5 := i_rw.tell (v := v4) (i_rw.clear (m := m3) (q_fx.rf (X := x_F)))
          rw [show (q_up m3 0 16 0) 0 16 = 0 from q_up_s] at h5
          refine bkX11_looks_38 (P4 := fun r4 m4 => m4 = q_up (q_up (q_up m3 0 16 0) 169 0 v4) 0 16 (0 + 1) ∧ r4 = a_un (fr v3) (kk + 1)) (P6 := fun _ _ => True) (fun _ => by decide) (fun _ => ?_) ?_ ?_ (fun z => absurd z (by omega)) (fun z => absurd z (by omega)) (fun z => absurd z (by omega)) (fun z => absurd z (by omega)) (fun z => absurd z (by omega))
          · rw [← (rot v3).2]
            have := sp_unlike (b := b) (K := kk + 1) (j := v3) (f := fc v3) (by omega) (by omega) (hm _ (fun i => h5.1 _ _ (by unfold x_F; omega)) v3 lkn.1 lkn.2)
            rw [show ((kk + 1 : Nat) : Int) = (kk : Int) + 1 by omega] at this
            exact this
          · rintro _ r4 m4 ⟨rfl, rfl⟩ _
            exact h5.len (by simp)
          · rintro _ r4 m4 ⟨rfl, rfl⟩ _
            have h6 := i_rw.tell (v := a_un (fr v3) (kk + 1)) h5
            exact ⟨rfl, (f3.tr (h6.1.mono (fun c i z => Or.inl z))).mono x_lC_Sc, h6.2.1, h6.2.2⟩
        refine q_for1 (A := fun i (x : Int × Int) m' => q_At yX11_looks cX11_looks 7 (some .int) 5 0 0 _ 38 [(2, 0), (0, (q : Int)), (0, (kk : Int) + 1), (0, x.1), (0, x.2), (0, i), (4, 0)] [] (q_sh0, q_rb b, m')) (fun i x m' => ∃ y : Nat, i = y ∧ y ≤ n ∧ m' = m3 ∧ ((y = 0 ∧ x = (0, (kk : Int) + 1 + 1)) ∨ (0 < y ∧ x = a_lk wr y))) n ?_ ?_ 0 (0, (kk : Int) + 1 + 1) m3 ⟨0, rfl, by omega, rfl, Or.inl ⟨rfl, rfl⟩⟩
        · rintro i ⟨x1, x2⟩ m' hi ⟨y, rfl, hy, rfl, hx⟩
          have : y = n := by omega
          subst this
          rcases hx with hx | hx
          · omega
          · exact fin x1 x2 (hx.2.trans hR)
        · rintro i ⟨x1, x2⟩ m' hi ⟨y, rfl, hy, rfl, hx⟩ ih
          have ma := sp_mostAlike (b := b) (K := kk + 1) (j := (y : Int)) (f := fc y) (by omega) (by omega) (hm m' (fun _ => rfl) y (by omega) (by omega))
          rw [(rot y).1, ← hwr, show ((kk + 1 : Nat) : Int) = (kk : Int) + 1 by omega] at ma
          have wy := wrin y
          refine bkX11_looks_38 (P4 := fun _ _ => True) (fun z => absurd z (by omega)) (fun z => absurd z (by omega)) (fun z => absurd z (by omega)) (fun z => absurd z (by omega)) (fun _ => ma) (fun _ _ _ _ _ _ => q_in_of (by omega) (by omega)) ?_ (fun _ _ _ _ _ _ => q_in_of (by omega) (by omega)) ?_
          · rintro _ r6 m6 ⟨rfl, rfl⟩ _ h
            have h : x2 ≤ wr y := h
            rcases hx with hx | hx
            · have := congrArg Prod.snd hx.2
              simp only at this
              omega
            · have e2 := congrArg Prod.snd hx.2
              simp only at e2
              exact ih (x1, x2) m6 ⟨y + 1, by omega, by omega, rfl, Or.inr ⟨by omega, by rw [hx.2]; simp only [a_lk]; rw [if_neg (by omega)]⟩⟩
          · rintro _ r6 m6 ⟨rfl, rfl⟩ _ h
            have h : wr y < x2 := h
            refine ih ((y : Int), wr y) m6 ⟨y + 1, by omega, by omega, rfl, Or.inr ⟨by omega, ?_⟩⟩
            simp only [a_lk]
            rcases hx with hx | hx
            · rw [if_pos (Or.inl hx.1)]
            · have e2 := congrArg Prod.snd hx.2
              simp only at e2
              rw [if_pos (Or.inr (by omega))]
      · intro m1 f1
        obtain ⟨T2, W2⟩ := K m1 f1
        have e1 := T2.1
        have ok0 := a_OK0 T3 W3
        refine q_enter (by decide +kernel) (by simp) (Nat.le_of_ble_eq_true rfl) ?_
        refine bkX12_looks_0 (fun _ _ => ?_) (fun _ z => absurd z (by omega)) (fun z => absurd ok z)
        -- judging
        have jd : ∀ m0 : qm, q_fx x_lM m1 m0 → (∀ j i : Int, 0 ≤ j → j < n → 0 ≤ i → i < (kk : Int) + 1 → m0 221 (9 * i + j) = fr j i) → q_At yX12_looks cX12_looks 13 (some .int) 3 0 0 (qK (q_rb b) (fun r m2 => r = R.1 ∧ q_fx x_Sr m1 m2 ∧ i_rr m1 m2 (some [R.2, a_un (fr R.1) (kk + 1)]))) 143 [(2, 188), (0, (q : Int)), (0, (kk : Int) + 1), (0, -1), (0, 0), (0, 0), (0, 0), (4, 0), (4, 0), (4, 0), (4, 0), (4, 0), (4, 0)] [] (q_sh0, q_rb b, m0) := by
          intro m0 f0 hm
          have t0 : m0 188 0 = n := (f0 _ _ (by unfold x_lM x_G; omega)).trans e1
          refine q_for1 (A := fun i (x : Int × Int × Int) m' => q_At yX12_looks cX12_looks 13 (some .int) 3 0 0 _ 143 [(2, 188), (0, (q : Int)), (0, (kk : Int) + 1), (0, x.1), (0, x.2.1), (0, x.2.2), (0, i), (4, 0), (4, 0), (4, 0), (4, 0), (4, 0), (4, 0)] [] (q_sh0, q_rb b, m')) (fun i x m' => ∃ y : Nat, i = y ∧ y ≤ n ∧ m' = m0 ∧ x.1 = (a_lk wr y).1 ∧ x.2.1 = (a_lk wr y).2 ∧ (0 < y → x.2.2 = a_un (fr (a_lk wr y).1) (kk + 1))) n ?_ ?_ 0 (-1, 0, 0) m0 ⟨0, rfl, by omega, rfl, rfl, rfl, fun z => absurd z (by omega)⟩
          · rintro i ⟨x1, x2, x3⟩ m' hi ⟨y, rfl, hy, rfl, h1, h2, h3⟩
            have : y = n := by omega
            subst this
            refine bkX12_looks_143 (fun _ => by decide) (fun _ => ?_) (fun z => absurd z (by omega))
            have h1 : x1 = (a_lk wr y).1 := h1
            have h2 : x2 = (a_lk wr y).2 := h2
            have h3 : x3 = a_un (fr (a_lk wr y).1) (kk + 1) := h3 (by omega)
            rw [hR] at h1 h2 h3
            rw [h1, h2, h3]
            have g1 := i_mw.tell (v := R.2) (i_mw.clear (m := m') (q_fx.rf (X := x_G)))
            rw [show (q_up m' 188 16 0) 188 16 = 0 from q_up_s] at g1
            have g2 := i_mw.tell (v := a_un (fr R.1) (kk + 1)) g1
            rw [show (q_up (q_up (q_up m' 188 16 0) 199 0 R.2) 188 16 (0 + 1)) 188 16 = 0 + 1 from q_up_s] at g2
            exact ⟨rfl, (f0.tr (g2.1.mono (fun c i z => Or.inl z))).mono x_lM_Sr, g2.2.1, g2.2.2⟩
          · rintro i ⟨x1, x2, x3⟩ m' hi ⟨y, rfl, hy, rfl, h1, h2, h3⟩ ih
            have h1 : x1 = (a_lk wr y).1 := h1
            have h2 : x2 = (a_lk wr y).2 := h2
            have h3 : 0 < y → x3 = a_un (fr (a_lk wr y).1) (kk + 1) := h3
            refine bkX12_looks_143 (fun z => absurd z (by omega)) (fun z => absurd z (by omega)) (fun _ => ?_)
            refine q_for1 (A := fun i (u : Int × Int) m'' => q_At yX12_looks cX12_looks 13 (some .int) 3 0 0 _ 161 [(2, 188), (0, (q : Int)), (0, (kk : Int) + 1), (0, x1), (0, x2), (0, x3), (0, (y : Int)), (0, u.1), (0, u.2), (0, i), (4, 0), (4, 0), (4, 0)] [] (q_sh0, q_rb b, m'')) (fun i u m'' => ∃ w : Nat, i = w ∧ w ≤ kk + 1 ∧ m'' = m' ∧ u.1 = a_wr (fr y) (kk + 1) w ∧ u.2 = a_un (fr y) w) (kk + 1) ?_ ?_ 0 (0, 0) m' ⟨0, rfl, by omega, rfl, rfl, rfl⟩
            · rintro i ⟨u1, u2⟩ m'' hi ⟨w, rfl, hw, rfl, g1, g2⟩
              have : w = kk + 1 := by omega
              subst this
              have g1 : u1 = a_wr (fr y) (kk + 1) (kk + 1) := g1
              have g2 : u2 = a_un (fr y) (kk + 1) := g2
              rw [← hwr] at g1
              have hin : q_in32 ((y : Int) + 1) := q_in_of (by omega) (by omega)
              have new : (y = 0 ∨ wr y < (a_lk wr y).2) → q_At yX12_looks cX12_looks 13 (some .int) 3 0 0 (qK (q_rb b) (fun r m2 => r = R.1 ∧ q_fx x_Sr m1 m2 ∧ i_rr m1 m2 (some [R.2, a_un (fr R.1) (kk + 1)]))) 143 [(2, 188), (0, (q : Int)), (0, (kk : Int) + 1), (0, (y : Int)), (0, u1), (0, u2), (0, (y : Int) + 1), (4, 0), (4, 0), (4, 0), (4, 0), (4, 0), (4, 0)] [] (q_sh0, q_rb b, m'') := fun hc => by
                have e : a_lk wr (y + 1) = ((y : Int), wr y) := by simp only [a_lk]; rw [if_pos hc]
                exact ih ((y : Int), u1, u2) m'' ⟨y + 1, by omega, by omega, rfl, by rw [e], by rw [e]; exact g1, fun _ => by rw [e]; exact g2⟩
              refine bkX12_looks_161 (fun _ _ => hin) (fun _ z => new ?_) (fun _ _ _ => hin) (fun _ z1 z2 => new (Or.inr (by omega))) (fun _ _ _ => hin) (fun _ z1 z2 => ?_) (fun z => absurd z (by omega))
              · by_cases hy0 : y = 0
                · exact Or.inl hy0
                · have := lk y (by omega)
                  omega
              · have hy0 : y ≠ 0 := fun h0 => by
                  subst h0
                  exact z1 h1
                have e : a_lk wr (y + 1) = a_lk wr y := by simp only [a_lk]; rw [if_neg (by omega)]
                exact ih (x1, x2, x3) m'' ⟨y + 1, by omega, by omega, rfl, by rw [e]; exact h1, by rw [e]; exact h2, fun _ => by rw [e]; exact h3 (by omega)⟩
            · rintro i ⟨u1, u2⟩ m'' hi ⟨w, rfl, hw, rfl, g1, g2⟩ ih2
              have g1 : u1 = a_wr (fr y) (kk + 1) w := g1
              have g2 : u2 = a_un (fr y) w := g2
              have p2 := a_un_in (f := fr y) w
              refine bkX12_looks_161 (fun z => absurd z (by omega)) (fun z => absurd z (by omega)) (fun z => absurd z (by omega)) (fun z => absurd z (by omega)) (fun z => absurd z (by omega)) (fun z => absurd z (by omega)) (fun _ => ?_)
              refine q_for1 (A := fun i (t : Int × Int) m3 => q_At yX12_looks cX12_looks 13 (some .int) 3 0 0 _ 176 [(2, 188), (0, (q : Int)), (0, (kk : Int) + 1), (0, x1), (0, x2), (0, x3), (0, (y : Int)), (0, u1), (0, u2), (0, (w : Int)), (0, t.1), (0, t.2), (0, i)] [] (q_sh0, q_rb b, m3)) (fun i t m3 => ∃ o : Nat, i = o ∧ o ≤ kk + 1 ∧ m3 = m'' ∧ t.1 = g_n (fr y) (fr y w) o ∧ t.2 = if g_n (fr y) (fr y w) (min o w) = 0 then 1 else 0) (kk + 1) ?_ ?_ 0 (0, 1) m'' ⟨0, rfl, by omega, rfl, rfl, by simp [g_n]⟩
              · rintro i ⟨t1, t2⟩ m3 hi ⟨o, rfl, ho, rfl, d1, d2⟩
                have : o = kk + 1 := by omega
                subst this
                have d1 : t1 = g_n (fr y) (fr y w) (kk + 1) := d1
                have d2 : t2 = if g_n (fr y) (fr y w) (min (kk + 1) w) = 0 then 1 else 0 := d2
                rw [show min (kk + 1) w = w by omega] at d2
                refine bkX12_looks_176 (fun _ _ => ⟨q_in_of (by omega) (by omega), q_in_of (by omega) (by omega)⟩) (fun _ z => ?_) (fun _ _ => ⟨q_in_of (by omega) (by omega), q_in_of (by omega) (by omega)⟩) (fun _ z => ?_) (fun z => absurd z (by omega)) (fun z => absurd z (by omega)) (fun z => absurd z (by omega)) (fun z => absurd z (by omega)) (fun z => absurd z (by omega)) (fun z => absurd z (by omega)) (fun z => absurd z (by omega)) (fun z => absurd z (by omega)) (fun z => absurd z (by omega)) (fun z => absurd z (by omega))
                · have nz : ¬ g_n (fr y) (fr y w) w = 0 := fun h => by rw [if_pos h] at d2; omega
                  exact ih2 (max u1 t1, u2 + 0) m3 ⟨w + 1, by omega, by omega, rfl, by simp only [a_wr]; rw [g1, d1], by simp only [a_un]; rw [if_neg nz, g2]⟩
                · have nz : g_n (fr y) (fr y w) w = 0 := by
                    by_cases h : g_n (fr y) (fr y w) w = 0
                    · exact h
                    · rw [if_neg h] at d2; exact absurd d2 z
                  exact ih2 (max u1 t1, u2 + 1) m3 ⟨w + 1, by omega, by omega, rfl, by simp only [a_wr]; rw [g1, d1], by simp only [a_un]; rw [if_pos nz, g2]⟩
              · rintro i ⟨t1, t2⟩ m3 hi ⟨o, rfl, ho, rfl, d1, d2⟩ ih3
                have d1 : t1 = g_n (fr y) (fr y w) o := d1
                have d2 : t2 = if g_n (fr y) (fr y w) (min o w) = 0 then 1 else 0 := d2
                have eo : m3 221 (9 * o + y) = fr y o := hm y o (by omega) (by omega) (by omega) (by omega)
                have ew : m3 221 (9 * w + y) = fr y w := hm y w (by omega) (by omega) (by omega) (by omega)
                have p3 := g_n_in (f := fr y) (v := fr y w) o
                have p4 := g_n_in (f := fr y) (v := fr y w) (min o w)
                have hin : q_in32 ((o : Int) + 1) := q_in_of (by omega) (by omega)
                have es : ∀ z, fr y o = z → g_n (fr y) z (o + 1) = g_n (fr y) z o + 1 := fun z hz => by simp only [g_n]; rw [if_pos hz]
                refine bkX12_looks_176 (fun z => absurd z (by omega)) (fun z => absurd z (by omega)) (fun z => absurd z (by omega)) (fun z => absurd z (by omega)) (fun _ => ⟨q_in_of (by omega) (by omega), q_in_of (by omega) (by omega), by omega, q_in_of (by omega) (by omega), q_in_of (by omega) (by omega), by omega⟩) (fun _ _ => q_in_of (by omega) (by omega)) (fun _ _ _ => hin) (fun _ z1 z2 => ?_) (fun _ _ _ _ => hin) (fun _ z1 z2 z3 => ?_) (fun _ _ _ _ => hin) (fun _ z1 z2 z3 => ?_) (fun _ _ => hin) (fun _ z1 => ?_)
                · rw [eo, ew] at z1
                  have nz : ¬ g_n (fr y) (fr y w) (min o w) = 0 := fun h => by rw [if_pos h] at d2; omega
                  have nz2 : ¬ g_n (fr y) (fr y w) (min (o + 1) w) = 0 := by
                    by_cases how : o < w
                    · rw [show min (o + 1) w = o + 1 by omega, es _ z1]; omega
                    · rw [show min (o + 1) w = min o w by omega]; exact nz
                  exact ih3 (t1 + 1, 0) m3 ⟨o + 1, by omega, by omega, rfl, by show t1 + 1 = _; rw [es _ z1, d1], by show (0 : Int) = _; rw [if_neg nz2]⟩
                · rw [eo, ew] at z1
                  have nz2 : ¬ g_n (fr y) (fr y w) (min (o + 1) w) = 0 := by
                    rw [show min (o + 1) w = o + 1 by omega, es _ z1]; omega
                  exact ih3 (t1 + 1, 0) m3 ⟨o + 1, by omega, by omega, rfl, by show t1 + 1 = _; rw [es _ z1, d1], by show (0 : Int) = _; rw [if_neg nz2]⟩
                · rw [eo, ew] at z1
                  have nz : g_n (fr y) (fr y w) (min o w) = 0 := by
                    by_cases h : g_n (fr y) (fr y w) (min o w) = 0
                    · exact h
                    · rw [if_neg h] at d2; exact absurd d2 z2
                  exact ih3 (t1 + 1, 1) m3 ⟨o + 1, by omega, by omega, rfl, by show t1 + 1 = _; rw [es _ z1, d1], by show (1 : Int) = _; rw [show min (o + 1) w = min o w by omega, if_pos nz]⟩
                · rw [eo, ew] at z1
                  have e1 : g_n (fr y) (fr y w) (o + 1) = g_n (fr y) (fr y w) o := by simp only [g_n]; rw [if_neg z1]; omega
                  refine ih3 (t1, t2) m3 ⟨o + 1, by omega, by omega, rfl, by rw [e1]; exact d1, ?_⟩
                  show t2 = _
                  rw [d2]
                  by_cases how : o < w
                  · rw [show min (o + 1) w = o + 1 by omega, e1, show min o w = o by omega]
                  · rw [show min (o + 1) w = min o w by omega]
        -- copying
        have cp : ∀ (m5 : qm) (v2 v3 : Int) (X : f_S), m5 188 0 = n → f_en n (m5 207) X.1 → 0 ≤ v2 → v2 ≤ 9 → 0 ≤ v3 → v3 ≤ n → (∀ m6 : qm, (∀ j : Int, 0 ≤ j → j < n → m6 221 (9 * v2 + j) = X.1 j) → q_fx (fun c i => c = 221 ∧ 9 * v2 ≤ i ∧ i < 9 * v2 + 9) m5 m6 → q_At yX12_looks cX12_looks 13 (some .int) 3 0 0 (qK (q_rb b) (fun r m2 => r = R.1 ∧ q_fx x_Sr m1 m2 ∧ i_rr m1 m2 (some [R.2, a_un (fr R.1) (kk + 1)]))) 28 [(2, 188), (0, (q : Int)), (0, v2 + 1), (0, v3 + 1), (4, 0), (4, 0), (4, 0), (4, 0), (4, 0), (4, 0), (4, 0), (4, 0), (4, 0)] [] (q_sh0, q_rb b, m6)) → q_At yX12_looks cX12_looks 13 (some .int) 3 0 0 (qK (q_rb b) (fun r m2 => r = R.1 ∧ q_fx x_Sr m1 m2 ∧ i_rr m1 m2 (some [R.2, a_un (fr R.1) (kk + 1)]))) 89 [(2, 188), (0, (q : Int)), (0, v2), (0, v3), (0, 0), (4, 0), (4, 0), (4, 0), (4, 0), (4, 0), (4, 0), (4, 0), (4, 0)] [] (q_sh0, q_rb b, m5) := by
          intro m5 v2 v3 X t5 l5 a0 a1 c0 c1 cont
          refine q_for (A := fun i m' => q_At yX12_looks cX12_looks 13 (some .int) 3 0 0 _ 89 [(2, 188), (0, (q : Int)), (0, v2), (0, v3), (0, i), (4, 0), (4, 0), (4, 0), (4, 0), (4, 0), (4, 0), (4, 0), (4, 0)] [] (q_sh0, q_rb b, m')) (fun i m' => 0 ≤ i ∧ i ≤ n ∧ (∀ j : Int, 0 ≤ j → j < i → m' 221 (9 * v2 + j) = X.1 j) ∧ q_fx (fun c i => c = 221 ∧ 9 * v2 ≤ i ∧ i < 9 * v2 + 9) m5 m') n ?_ ?_ 0 m5 ⟨by omega, by omega, fun j a c => absurd a (by omega), q_fx.rf⟩
          · rintro i m' hi ⟨i0, i1, h, f⟩
            have t : m' 188 0 = n := (f _ _ (by omega)).trans t5
            exact bkX12_looks_89 (fun _ => ⟨q_in_of (by omega) (by omega), q_in_of (by omega) (by omega)⟩) (fun _ => cont m' (fun j a c => h j a (by omega)) f) (fun z => absurd z (by omega)) (fun z => absurd z (by omega))
          · rintro i m' hi ⟨i0, i1, h, f⟩ ih
            have t : m' 188 0 = n := (f _ _ (by omega)).trans t5
            have el : m' 207 i = X.1 i := (f _ _ (by omega)).trans (l5 i i0 hi)
            refine bkX12_looks_89 (fun z => absurd z (by omega)) (fun z => absurd z (by omega)) (fun _ => ⟨q_in_of (by omega) (by omega), q_in_of (by omega) (by omega), by omega, by omega, q_in_of (by omega) (by omega)⟩) (fun _ => ih _ ⟨by omega, by omega, fun j a c => ?_, f.up ⟨rfl, by omega, by omega⟩⟩)
            by_cases hj : j = i
            · subst hj; rw [q_up_s]; exact el
            · rw [q_up_i (by omega)]; exact h j a (by omega)
        -- ways
        refine q_for' (A := fun i (x : Int) m' => q_At yX12_looks cX12_looks 13 (some .int) 3 0 0 _ 28 [(2, 188), (0, (q : Int)), (0, x), (0, i), (4, 0), (4, 0), (4, 0), (4, 0), (4, 0), (4, 0), (4, 0), (4, 0), (4, 0)] [] (q_sh0, q_rb b, m')) (fun i x m' => ∃ y : Nat, i = y ∧ q_fx x_lM m1 m' ∧ ((y ≤ n ∧ x = (a_ly G T.2.2.2.1 y).1 ∧ ∀ i j : Int, 0 ≤ i → i < (a_ly G T.2.2.2.1 y).1 → 0 ≤ j → j < n → m' 221 (9 * i + j) = (a_ly G T.2.2.2.1 y).2 i j) ∨ (y = n + 1 ∧ x = (kk : Int) + 1 ∧ ∀ j i : Int, 0 ≤ j → j < n → 0 ≤ i → i < (kk : Int) + 1 → m' 221 (9 * i + j) = fr j i))) n ?_ ?_ 0 0 _ ⟨0, rfl, q_fx.rf.up (by unfold x_lM x_G; decide), Or.inl ⟨by omega, rfl, fun i j a c => absurd c (by simp [a_ly]; omega)⟩⟩
        · rintro i x m' hi ⟨y, rfl, fx, h⟩
          have t : m' 188 0 = n := (fx _ _ (by unfold x_lM x_G; omega)).trans e1
          rcases h with h | h
          · omega
          · obtain ⟨rfl, rfl, h⟩ := h
            exact bkX12_looks_28 (P3 := fun _ _ => True) (P5 := fun _ _ _ _ => True) (P6 := fun _ _ _ _ => True) (P8 := fun _ _ => True) (P10 := fun _ _ _ _ => True) (P11 := fun _ _ _ _ => True) (fun _ => jd m' fx h) (fun z => absurd z (by omega)) (fun z => absurd z (by omega)) (fun z => absurd z (by omega)) (fun z => absurd z (by omega)) (fun z => absurd z (by omega)) (fun z => absurd z (by omega)) (fun z => absurd z (by omega)) (fun z => absurd z (by omega)) (fun z => absurd z (by omega)) (fun z => absurd z (by omega)) (fun z => absurd z (by omega)) (fun z => absurd z (by omega)) (fun z => absurd z (by omega)) (fun z => absurd z (by omega)) (fun z => absurd z (by omega))
        · rintro i x m' hi ⟨y, rfl, fx, h⟩ ih
          have h0 := h.resolve_right (fun z => by omega)
          clear h
          obtain ⟨hy, rfl, h⟩ := h0
          have T2' := T2.fr fx (by unfold x_lM x_G; omega)
          have W2' := W2.fr fx (by unfold x_lM x_G; omega)
          have t := T2'.1
          have ly := lyn y
          have hin : q_in32 ((y : Int) + 1) := q_in_of (by omega) (by omega)
          by_cases hyn : y = n
          · subst hyn
            refine bkX12_looks_28 (P5 := fun _ _ _ m5 => m5 188 0 = y ∧ f_en y (m5 207) (G (-1)).1 ∧ q_fx x_g m' m5) (P6 := fun _ _ _ _ => True) (P8 := fun _ _ => True) (P10 := fun _ _ _ _ => True) (P11 := fun _ _ _ _ => True) (fun z => absurd z (by omega)) (fun _ _ => sp_beginW T2' W2' h9) ?_ ?_ ?_ ?_ ?_ (fun _ z => absurd z (by omega)) (fun _ z => absurd z (by omega)) (fun _ z => absurd z (by omega)) (fun _ z => absurd z (by omega)) (fun _ z => absurd z (by omega)) (fun _ z => absurd z (by omega)) (fun _ z => absurd z (by omega)) (fun _ z => absurd z (by omega)) (fun _ z => absurd z (by omega))
            · rintro _ _ r3 m3 ⟨g, f3⟩ _ _
              refine (sp_goOnNF g ok0 q (by omega)).post (fun r m5 z => ⟨z.1.1, ?_, ?_⟩)
              · rw [hGd, if_pos rfl]; exact z.1.lv
              · exact (f3.mono (fun c i z => by unfold x_g; omega)).tr (z.2.mono (fun c i z => by unfold f_X at z; unfold x_g; omega))
            · rintro _ _ r3 m3 - _ _ r5 m5 ⟨t5, l5, f5⟩ _
              refine cp m5 _ _ _ t5 l5 (by omega) (by omega) (by omega) (by omega) (fun m6 l6 f6 => ?_)
              rw [← hkk] at l6 f6 h ⊢
              refine ih _ m6 ⟨y + 1, by omega, fx.tr ((f5.mono (fun c i z => by unfold x_g at z; unfold x_lM x_G; omega)).tr (f6.mono (fun c i z => Or.inr z.1))), Or.inr ⟨rfl, rfl, fun j i j0 j1 i0 i1 => ?_⟩⟩
              rw [hfr]
              by_cases hi : i = (kk : Int)
              · rw [if_pos hi, hi]; exact l6 j j0 j1
              · rw [if_neg hi, f6 _ _ (by omega), f5 _ _ (by unfold x_g; omega)]; exact h i j i0 (by omega) j0 j1
            · rintro _ _ r3 m3 ⟨g, f3⟩ _ z
              have := g.1
              omega
            · rintro _ _ r3 m3 ⟨g, f3⟩ _ z
              have := g.1
              omega
            · rintro _ _ r3 m3 ⟨g, f3⟩ _ z
              have := g.1
              omega
          · have hyl : y < n := by omega
            have eh : m' 191 y = T.2.2.2.1 y := T2'.2.2.2.2.1 y (by omega) (by omega)
            have th := T3.2 y (by omega) (by omega)
            refine bkX12_looks_28 (P3 := fun _ _ => True) (P5 := fun _ _ _ _ => True) (P6 := fun _ _ _ _ => True) (P10 := fun _ _ _ _ => True) (P11 := fun _ _ _ m5 => m5 188 0 = n ∧ f_en n (m5 207) (G y).1 ∧ q_fx x_g m' m5) (fun z => absurd z (by omega)) (fun _ z => absurd z (by omega)) (fun _ z => absurd z (by omega)) (fun _ z => absurd z (by omega)) (fun _ z => absurd z (by omega)) (fun _ z => absurd z (by omega)) (fun _ z => absurd z (by omega)) (fun _ _ => by omega) (fun _ _ _ => sp_beginW T2' W2' h9) ?_ ?_ ?_ ?_ ?_ (fun _ _ _ => hin) (fun _ _ z => ?_)
            · rintro _ _ _ r8 m8 ⟨g, f8⟩ _ z
              have := g.1
              omega
            · rintro _ _ _ r8 m8 ⟨g, f8⟩ _ z
              have := g.1
              omega
            · rintro _ _ _ r8 m8 ⟨g, f8⟩ _ z
              have := g.2.2.2.1 y (by omega) (by omega)
              exact q_in_of (by omega) (by omega)
            · rintro _ _ hne r8 m8 ⟨g, f8⟩ _ z
              have e28 := g.2.2.2.1 y (by omega) (by omega)
              rw [e28]
              have okh := a_ho_ok T3 W3 (j := (y : Int)) (w := T.2.2.2.1 y + 1) (by omega)
              refine (sp_goOnNF (g.ho (T := T) (j := (y : Int)) (w := T.2.2.2.1 y + 1)) okh q (by omega)).post (fun r m5 z => ⟨z.1.1, ?_, ?_⟩)
              · rw [hGd, if_neg (by omega)]; exact z.1.lv
              · exact ((f8.mono (fun c i z => by unfold x_g; omega)).up (by unfold x_g; omega)).tr (z.2.mono (fun c i z => by unfold f_X at z; unfold x_g; omega))
            · rintro _ _ hne r8 m8 - _ _ r5 m5 ⟨t5, l5, f5⟩ _
              have nh : ¬ T.2.2.2.1 y = 9 := by omega
              refine cp m5 _ _ _ t5 l5 (by omega) (by omega) (by omega) (by omega) (fun m6 l6 f6 => ?_)
              refine ih _ m6 ⟨y + 1, by omega, fx.tr ((f5.mono (fun c i z => by unfold x_g at z; unfold x_lM x_G; omega)).tr (f6.mono (fun c i z => Or.inr z.1))), Or.inl ⟨by omega, by simp only [a_ly]; rw [if_neg nh], fun i j a b c d => ?_⟩⟩
              simp only [a_ly] at b ⊢
              rw [if_neg nh] at b ⊢
              have b : i < (a_ly G T.2.2.2.1 y).1 + 1 := b
              show _ = if i = (a_ly G T.2.2.2.1 y).1 then (G y).1 j else (a_ly G T.2.2.2.1 y).2 i j
              by_cases hi : i = (a_ly G T.2.2.2.1 y).1
              · rw [if_pos hi, hi]; exact l6 j c d
              · rw [if_neg hi, f6 _ _ (by omega), f5 _ _ (by unfold x_g; omega)]; exact h i j a (by omega) c d
            · have nh : T.2.2.2.1 y = 9 := by omega
              exact ih _ m' ⟨y + 1, by omega, fx, Or.inl ⟨by omega, by simp only [a_ly]; rw [if_pos nh], by simp only [a_ly]; rw [if_pos nh]; exact h⟩⟩
  · refine i_joinS hL I (R := -1) (o := none) (fun l z => by cases z) ?_ ?_
    · refine q_enter (by decide +kernel) (by simp) (Nat.le_of_ble_eq_true rfl) ?_
      exact bkX11_looks_0 (P3 := fun _ _ => True) (fun z => absurd z ok) (fun z => absurd z ok) (fun z => absurd z ok) (fun z => absurd z ok) (fun _ => ⟨rfl, q_fx.rf, rfl, fun _ => rfl⟩)
    · intro m1 f1
      refine q_enter (by decide +kernel) (by simp) (Nat.le_of_ble_eq_true rfl) ?_
      exact bkX12_looks_0 (fun z => absurd z ok) (fun z => absurd z ok) (fun _ => ⟨rfl, x_Sr0, i_g0r⟩)
