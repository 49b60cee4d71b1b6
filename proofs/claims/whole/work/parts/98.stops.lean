/-! ===== stops ===== -/
theorem a_pc_all : (List.range 512).all (fun s => decide (s = 0 ∨ 1 ≤ a_pc s)) = true := by decide +kernel
theorem a_pc_pos {s : Nat} (hs : s < 512) (h0 : s ≠ 0) : 1 ≤ a_pc s := by
  have h := a_pc_all
  rw [List.all_eq_true] at h
  exact (of_decide_eq_true (h s (List.mem_range.mpr hs))).resolve_left h0
theorem a_pc_2 : (List.range 9).all (fun j => decide (a_pc (2 ^ j) = 1)) = true := by decide +kernel
theorem a_pc_one {j : Nat} (hj : j < 9) : a_pc (2 ^ j) = 1 := by
  have h := a_pc_2
  rw [List.all_eq_true] at h
  exact of_decide_eq_true (h j (List.mem_range.mpr hj))
theorem a_pc_nn {s : Nat} : 0 ≤ a_pc s ∧ a_pc s ≤ 9 := by
  have := g_s_in (f := fun i => if s.testBit i.toNat then (1 : Int) else 0) (A := 1) (n := 9) (by decide) (fun j _ _ => by split <;> omega)
  unfold a_pc
  omega
theorem rf_stops {LW : qm → Prop} {k n q : Nat} {b : Int} {m m1 : qm} {T : a_T} {A : a_W} {B : Int} (K1 : r_T m1 n T ∧ r_W m1 n A) (T3 : a_TV n T) (W3 : a_V B n T.1 A) {j w : Int} (okj : 0 ≤ j ∧ j < n) (okw : 0 ≤ w ∧ w ≤ 60) (okv : q ≤ 200) (fd : Prop) [Decidable fd] (z : Nat) (p1 : ∀ s, s < 2 ^ n → (¬ fd ∨ s < z) → (a_Y n T A q s).1 j < w) (p2 : fd → w ≤ (a_Y n T A q z).1 j ∧ z < 2 ^ n) (p3 : fd → ∀ s, z < s → s < 2 ^ n → a_pc z ≤ a_pc s) :
    q_Ev yX12_stops cX12_stops 7 (some .int) 4 0 0 [(2, 188), (0, j), (0, w), (0, (q : Int))] (q_sh0, q_rb b, m1) (qK (q_rb b) (fun r m2 => r = (if fd then a_pc z else -2) ∧ q_fx x_tM m1 m2 ∧ r_W m2 n A ∧ i_rr m1 m2 (if fd then some [(z : Int), (a_Y n T A q z).1 j] else none))) := by
  obtain ⟨T2, W2⟩ := K1
  have e1 := T2.1
  have h9 := T3.1
  have pn : ∀ s, s < 2 ^ n → s < 512 := fun s h => p512 h h9
  refine q_enter (by decide +kernel) (by simp) (Nat.le_of_ble_eq_true rfl) ?_
  refine bkX12_stops_0 (q_in_of (by omega) (by omega)) (fun _ _ _ => ?_) (fun _ _ z => absurd (by omega) z) (fun _ z => absurd okw z) (fun z => absurd (by omega) z)
  have sh : ∀ m' : qm, m' 188 0 = n → q_oishl 1 (m' 188 0) = ((2 ^ n : Nat) : Int) := fun m' h => by rw [h]; exact q_shl1 (by omega)
  have hn512 : (2 ^ n : Nat) ≤ 512 := Nat.le_trans (Nat.pow_le_pow_right (by decide) h9) (by decide)
  refine q_for1 (A := fun i (x : Int × Int) m' => q_At yX12_stops cX12_stops 7 (some .int) 4 0 0 _ 41 [(2, 188), (0, j), (0, w), (0, (q : Int)), (0, x.1), (0, x.2), (0, i)] [] (q_sh0, q_rb b, m')) (fun i x m' => ∃ y : Nat, i = y ∧ y ≤ 2 ^ n ∧ q_fx x_g7 m1 m' ∧ x = if fd ∧ z < y then ((z : Int), (a_Y n T A q z).1 j) else (-1, 0)) ((2 ^ n : Nat) : Int) ?_ ?_ 0 (-1, 0) _ ⟨0, rfl, Nat.zero_le _, q_fx.rf.up (Or.inr ⟨rfl, rfl⟩), by rw [if_neg (by omega)]⟩
  · rintro i ⟨x1, x2⟩ m' hi ⟨y, rfl, hy, fx, hx⟩
    have : y = 2 ^ n := by omega
    have e2 : m' 188 0 = n := (fx _ _ (by unfold x_g7 x_g; omega)).trans e1
    have es := sh m' e2
    have W2' := W2.fr fx (by unfold x_g7 x_g; omega)
    by_cases hfd : fd
    · have p2' := p2 hfd
      rw [if_pos ⟨hfd, by omega⟩] at hx
      cases hx
      rw [if_pos hfd, if_pos hfd]
      have h1 := i_mw.tell (v := (z : Int)) (i_mw.clear (m := m') (q_fx.rf (X := x_G)))
      rw [show (q_up m' 188 16 0) 188 16 = 0 from q_up_s] at h1
      have h2 := i_mw.tell (v := (a_Y n T A q z).1 j) h1
      rw [show (q_up (q_up (q_up m' 188 16 0) 199 0 (z : Int)) 188 16 (0 + 1)) 188 16 = 0 + 1 from q_up_s] at h2
      refine bkX12_stops_41 (P7 := fun _ _ => True) (P9 := fun _ _ => True) (P10 := fun _ _ _ _ => True) (P12 := fun _ _ _ _ _ _ => True) (fun _ _ => by decide) (fun _ _ => sp_bitCount (pn z p2'.2)) ?_ (fun _ zz => absurd zz (by omega)) (fun zz => absurd zz (by omega)) (fun zz => absurd zz (by omega)) (fun zz => absurd zz (by omega)) (fun zz => absurd zz (by omega)) (fun zz => absurd zz (by omega)) (fun zz => absurd zz (by omega)) (fun zz => absurd zz (by omega)) (fun zz => absurd zz (by omega)) (fun zz => absurd zz (by omega)) (fun zz => absurd zz (by omega)) (fun zz => absurd zz (by omega)) (fun zz => absurd zz (by omega)) (fun zz => absurd zz (by omega)) (fun zz => absurd zz (by omega)) (fun zz => absurd zz (by omega)) (fun zz => absurd zz (by omega))
      rintro _ _ r5 m5 ⟨rfl, rfl⟩ _
      exact ⟨rfl, (fx.mono x_g7_tM).tr (h2.1.mono x_G_tM), W2'.fr h2.1 (by unfold x_G; omega), h2.2.1, h2.2.2⟩
    · rw [if_neg (fun h => hfd h.1)] at hx
      cases hx
      rw [if_neg hfd, if_neg hfd]
      exact bkX12_stops_41 (P5 := fun _ _ => True) (P7 := fun _ _ => True) (P9 := fun _ _ => True) (P10 := fun _ _ _ _ => True) (P12 := fun _ _ _ _ _ _ => True) (fun _ zz => absurd rfl zz) (fun _ zz => absurd rfl zz) (fun _ zz => absurd rfl zz) (fun _ _ => ⟨rfl, fx.mono x_g7_tM, W2', fx _ _ (by unfold x_g7 x_g; omega), fun i => fx _ _ (by unfold x_g7 x_g; omega)⟩) (fun zz => absurd zz (by omega)) (fun zz => absurd zz (by omega)) (fun zz => absurd zz (by omega)) (fun zz => absurd zz (by omega)) (fun zz => absurd zz (by omega)) (fun zz => absurd zz (by omega)) (fun zz => absurd zz (by omega)) (fun zz => absurd zz (by omega)) (fun zz => absurd zz (by omega)) (fun zz => absurd zz (by omega)) (fun zz => absurd zz (by omega)) (fun zz => absurd zz (by omega)) (fun zz => absurd zz (by omega)) (fun zz => absurd zz (by omega)) (fun zz => absurd zz (by omega)) (fun zz => absurd zz (by omega))
  · rintro i ⟨x1, x2⟩ m' hi ⟨y, rfl, hy, fx, hx⟩ ih
    have e2 : m' 188 0 = n := (fx _ _ (by unfold x_g7 x_g; omega)).trans e1
    have es := sh m' e2
    have hy2 : y < 2 ^ n := by omega
    have T2' := T2.fr fx (by unfold x_g7 x_g; omega)
    have W2' := W2.fr fx (by unfold x_g7 x_g; omega)
    have hin : q_in32 ((y : Int) + 1) := q_in_of (by omega) (by omega)
    by_cases hc : fd ∧ z < y
    · rw [if_pos hc] at hx
      cases hx
      have n1 : (z : Int) ≠ -1 := by omega
      have pz := p3 hc.1 y hc.2 hy2
      refine bkX12_stops_41 (P5 := fun _ _ => True) (P7 := fun _ _ => True) (P9 := fun r9 m9 => m9 = m' ∧ r9 = a_pc y) (P10 := fun _ _ r9 m9 => m9 = m' ∧ r9 = a_pc z) (P12 := fun _ _ _ _ _ _ => True) (fun zz => absurd zz (by omega)) (fun zz => absurd zz (by omega)) (fun zz => absurd zz (by omega)) (fun zz => absurd zz (by omega)) (fun _ zz => absurd zz n1) (fun _ zz => absurd zz n1) (fun _ zz => absurd zz n1) (fun _ zz => absurd zz n1) (fun _ zz => absurd zz n1) (fun _ zz => absurd zz n1) (fun _ _ => sp_bitCount (pn y hy2)) ?_ ?_ ?_ ?_ ?_ ?_ ?_ ?_ ?_
      · rintro _ _ r9 m9 ⟨rfl, rfl⟩ _
        exact sp_bitCount (pn z (by omega))
      · rintro _ _ r9 m9 ⟨rfl, rfl⟩ _ r10 m10 ⟨rfl, rfl⟩ _ zz
        omega
      · rintro _ _ r9 m9 ⟨rfl, rfl⟩ _ r10 m10 ⟨rfl, rfl⟩ _ zz
        omega
      · rintro _ _ r9 m9 ⟨rfl, rfl⟩ _ r10 m10 ⟨rfl, rfl⟩ _ zz
        omega
      · rintro _ _ r9 m9 ⟨rfl, rfl⟩ _ r10 m10 ⟨rfl, rfl⟩ _ zz
        omega
      · rintro _ _ r9 m9 ⟨rfl, rfl⟩ _ r10 m10 ⟨rfl, rfl⟩ _ zz
        omega
      · rintro _ _ r9 m9 ⟨rfl, rfl⟩ _ r10 m10 ⟨rfl, rfl⟩ _ zz
        omega
      · rintro _ _ r9 m9 ⟨rfl, rfl⟩ _ r10 m10 ⟨rfl, rfl⟩ _ zz
        exact hin
      · rintro _ _ r9 m9 ⟨rfl, rfl⟩ _ r10 m10 ⟨rfl, rfl⟩ _ zz
        exact ih ((z : Int), (a_Y n T A q z).1 j) m10 ⟨y + 1, by omega, by omega, fx, by rw [if_pos ⟨hc.1, by omega⟩]⟩
    · rw [if_neg hc] at hx
      cases hx
      refine bkX12_stops_41 (P5 := fun _ _ => True) (P7 := fun r7 m7 => (∀ j : Int, 0 ≤ j → j < n → m7 207 j = (a_Y n T A q y).1 j) ∧ r7 = (a_Y n T A q y).2.2 ∧ q_fx x_g m' m7) (P9 := fun _ _ => True) (P10 := fun _ _ _ _ => True) (P12 := fun _ _ _ _ _ _ => True) (fun zz => absurd zz (by omega)) (fun zz => absurd zz (by omega)) (fun zz => absurd zz (by omega)) (fun zz => absurd zz (by omega)) (fun _ _ => sp_goStoppedM T2' W2' T3 W3 (pn y hy2) okv) (fun _ _ _ _ _ _ => by omega) (fun _ _ _ _ _ _ _ => hin) ?_ (fun _ _ _ _ _ _ _ => hin) ?_ (fun _ zz => absurd rfl zz) (fun _ zz => absurd rfl zz) (fun _ zz => absurd rfl zz) (fun _ zz => absurd rfl zz) (fun _ zz => absurd rfl zz) (fun _ zz => absurd rfl zz) (fun _ zz => absurd rfl zz) (fun _ zz => absurd rfl zz) (fun _ zz => absurd rfl zz) (fun _ zz => absurd rfl zz)
      · rintro _ _ r7 m7 ⟨h7, -, f7⟩ _ hz
        rw [h7 j okj.1 okj.2] at hz ⊢
        by_cases hyz : fd ∧ z = y
        · obtain ⟨hf, rfl⟩ := hyz
          exact ih ((z : Int), (a_Y n T A q z).1 j) m7 ⟨z + 1, by omega, by omega, fx.tr (f7.mono (fun c i z => Or.inl z)), by rw [if_pos ⟨hf, by omega⟩]⟩
        · have := p1 y hy2 (by
            by_cases hf : fd
            · right
              have a1 : ¬ z < y := fun h => hc ⟨hf, h⟩
              have a2 : ¬ z = y := fun h => hyz ⟨hf, h⟩
              omega
            · exact Or.inl hf)
          omega
      · rintro _ _ r7 m7 ⟨h7, -, f7⟩ _ hz
        rw [h7 j okj.1 okj.2] at hz
        refine ih (-1, 0) m7 ⟨y + 1, by omega, by omega, fx.tr (f7.mono (fun c i z => Or.inl z)), ?_⟩
        rw [if_neg]
        rintro ⟨hf, hzy⟩
        have a1 : ¬ z < y := fun h => hc ⟨hf, h⟩
        have : z = y := by omega
        subst this
        have := (p2 hf).1
        omega
theorem op_stops {LW : qm → Prop} (hL : i_Lf LW) {k : Nat} {b : Int} {m : qm} (I : i_I LW k m) (j w v : Int) :
    q_Ev yX11_stops cX11_stops 5 (some .int) 5 0 0 [(2, 0), (0, j), (0, w), (0, v)] (q_sh0, q_rb b, m) (qK (q_rb b) (fun r m1 => q_Ev yX12_stops cX12_stops 7 (some .int) 4 0 0 [(2, 188), (0, j), (0, w), (0, v)] (q_sh0, q_rb b, m1) (i_O LW (k + 1) r))) := by
  obtain ⟨n, en, T1, T3, W1, W3, K⟩ := i_knowT I
  have h9 := T3.1
  have e0 := T1.1
  generalize hA : a_of m = A at W1 W3 K
  generalize hT : a_Tof m = T at T1 T3 W3 K
  by_cases ok : (0 ≤ j ∧ j < n) ∧ (0 ≤ w ∧ w ≤ 60) ∧ (0 ≤ v ∧ v ≤ 200)
  · obtain ⟨okj, okw, okv⟩ := ok
    obtain ⟨q, rfl⟩ : ∃ q : Nat, v = q := ⟨v.toNat, by omega⟩
    obtain ⟨jn, rfl⟩ : ∃ jn : Nat, j = jn := ⟨j.toNat, by omega⟩
    have hq : q ≤ 200 := by omega
    have hj9 : jn < 9 := by omega
    have z0 : (0 : Nat) < 2 ^ n := Nat.pow_pos (by decide)
    have zj : 2 ^ jn < 2 ^ n := Nat.pow_lt_pow_right (by decide) (by omega)
    have zj5 : 2 ^ jn < 512 := p512 zj h9
    have Ui := a_bn_in (p := a_us T A q) n
    generalize hU : a_bn (a_us T A q) n = U at Ui
    have U5 : U < 512 := p512 Ui.1 h9
    have Ub : U.testBit jn = a_us T A q jn := by rw [Ui.2 jn, decide_eq_true (show jn < n by omega), Bool.true_and]
    have two : ∀ i : Int, 0 ≤ i → (2 ^ jn).testBit i.toNat = decide (i = jn) := fun i i0 => by
      rw [Nat.testBit_two_pow]; exact decide_eq_decide.mpr (by omega)
    have L1 : ∀ s, s < 2 ^ n → s.testBit jn = false → (a_Y n T A q s).1 jn ≤ (a_Y n T A q 0).1 jn := fun s hs hb => a_Y_mono T3 W3 jn s 0 (fun i a b h => by simp at h) (by rw [Int.toNat_natCast, hb]; simp) q jn okj.1 okj.2 (Or.inl rfl)
    have L2 : ∀ s, s < 2 ^ n → s.testBit jn = true → (a_Y n T A q s).1 jn ≤ (a_Y n T A q (2 ^ jn)).1 jn := fun s hs hb => a_Y_mono T3 W3 jn s (2 ^ jn) (fun i a b h => by rw [two i a] at h; rw [of_decide_eq_true h, Int.toNat_natCast]; exact hb) (by rw [two _ (by omega), Int.toNat_natCast, hb]; simp) q jn okj.1 okj.2 (Or.inl rfl)
    have L3 : U.testBit jn = false → (a_Y n T A q (2 ^ jn)).1 jn = (a_Y n T A q 0).1 jn := fun hb => by
      rw [Ub] at hb
      have hb := of_decide_eq_false hb
      have hh := (T3.2 jn okj.1 okj.2).2.2.2.2.2.2.1
      refine (a_Y_and T3 W3 q (2 ^ jn) 0 (fun i a b => ?_)).1 jn okj.1 okj.2
      by_cases hi : i = jn
      · subst hi; right; omega
      · left; rw [two i a, decide_eq_false hi]; simp
    generalize hY0 : (a_Y n T A q 0).1 jn = Y0 at L1 L3
    generalize hYj : (a_Y n T A q (2 ^ jn)).1 jn = Yj at L2 L3
    have ow : q_oiand (U : Int) (q_oishl 1 (jn : Int)) = if U.testBit jn then ((2 ^ jn : Nat) : Int) else 0 := q_and_bit U5 hj9
    have pj := a_pc_one hj9
    have p0 : a_pc 0 = 0 := by decide
    have hpos : (0 : Int) < ((2 ^ jn : Nat) : Int) := by have := Nat.pow_pos (n := jn) (show 0 < 2 by decide); omega
    have sC : ∀ (m' : qm) (s : Nat), s < 512 → q_fx x_f m m' → q_Ev yX11_goStopped cX11_goStopped 4 none 4 0 0 [(2, 0), (0, (s : Int)), (0, (q : Int))] (q_sh0, q_rb b, m') (qK (q_rb b) (fun _ m2 => m2 27 jn = (a_Y n T A q s).1 jn ∧ q_fx x_f m m2)) := fun m' s hs fx => (sp_goStoppedC (T1.fr fx (by unfold x_f; omega)) (W1.fr fx (by unfold x_f w_z; omega)) T3 W3 hs hq).post (fun r m2 h => ⟨h.1 jn okj.1 okj.2, fx.tr h.2.2⟩)
    have wr : ∀ (m' : qm), q_fx x_f m m' → q_Ev yX11_worthStopping cX11_worthStopping 4 (some .int) 1 0 0 [(2, 0), (0, (q : Int))] (q_sh0, q_rb b, m') (qK (q_rb b) (fun r m2 => m2 = m' ∧ r = (U : Int))) := fun m' fx => by
      have := sp_worth (b := b) (q := q) (T1.fr fx (by unfold x_f; omega)) (W1.fr fx (by unfold x_f w_z; omega)) T3 W3
      rw [hU] at this
      exact this
    have tel : ∀ (m' : qm) (a c : Int), q_fx x_f m m' → q_fx x_tC m (q_up (q_up (q_up (q_up (q_up m' 0 16 0) 169 0 a) 0 16 (0 + 1)) 169 (0 + 1) c) 0 16 (0 + 1 + 1)) ∧ i_rc m (q_up (q_up (q_up (q_up (q_up m' 0 16 0) 169 0 a) 0 16 (0 + 1)) 169 (0 + 1) c) 0 16 (0 + 1 + 1)) (some [a, c]) := fun m' a c fx => by
      have h1 := i_rw.tell (v := a) (i_rw.clear (m := m') (q_fx.rf (X := x_F)))
      rw [show (q_up m' 0 16 0) 0 16 = 0 from q_up_s] at h1
      have h2 := i_rw.tell (v := c) h1
      rw [show (q_up (q_up (q_up m' 0 16 0) 169 0 a) 0 16 (0 + 1)) 0 16 = 0 + 1 from q_up_s] at h2
      exact ⟨(fx.mono x_f_tC).tr (h2.1.mono x_F_tC), h2.2.1, h2.2.2⟩
    have nor : ∀ m' : qm, q_fx x_f m m' → i_rc m m' none := fun m' fx => ⟨fx _ _ (by unfold x_f; omega), fun i => fx _ _ (by unfold x_f; omega)⟩
    by_cases cA : w ≤ Y0
    · refine i_joinT hL I en hA (R := 0) (o := some [0, Y0]) (fun l z => by cases z; simp) ?_ ?_
      · refine q_enter (by decide +kernel) (by simp) (Nat.le_of_ble_eq_true rfl) ?_
        refine bkX11_stops_0 (P4 := fun _ m2 => m2 27 jn = Y0 ∧ q_fx x_f m m2) (P6 := fun _ _ _ _ => True) (P13 := fun _ _ _ _ _ _ => True) (fun _ _ _ => by have := sC m 0 (by decide) q_fx.rf; rw [hY0] at this; exact this) (fun _ _ _ _ _ _ _ => by omega) (fun _ _ _ r4 m4 h4 _ zz => absurd zz (by rw [h4.1]; omega)) (fun _ _ _ r4 m4 h4 _ zz => absurd zz (by rw [h4.1]; omega)) (fun _ _ _ r4 m4 h4 _ zz => absurd zz (by rw [h4.1]; omega)) (fun _ _ _ r4 m4 h4 _ zz => absurd zz (by rw [h4.1]; omega)) (fun _ _ _ r4 m4 h4 _ zz => absurd zz (by rw [h4.1]; omega)) (fun _ _ _ r4 m4 h4 _ zz => absurd zz (by rw [h4.1]; omega)) (fun _ _ _ r4 m4 h4 _ zz => absurd zz (by rw [h4.1]; omega)) (fun _ _ _ r4 m4 h4 _ zz => absurd zz (by rw [h4.1]; omega)) (fun _ _ _ r4 m4 h4 _ zz => absurd zz (by rw [h4.1]; omega)) (fun _ _ _ r4 m4 h4 _ zz => absurd zz (by rw [h4.1]; omega)) (fun _ _ _ _ _ _ _ _ _ => by decide) ?_ (fun _ _ _ r4 m4 h4 _ _ zz => absurd zz (by rw [h4.1]; omega)) (fun _ _ z => absurd okv z) (fun _ z => absurd okw z) (fun z => absurd (by omega) z)
        rintro _ _ _ r4 m4 ⟨h4, f4⟩ _ _ _
        rw [h4]
        exact ⟨rfl, tel m4 0 Y0 f4⟩
      · intro m1 f1
        have r := rf_stops (LW := LW) (k := k) (b := b) (m := m) (K m1 f1) T3 W3 okj okw hq True 0 (fun s hs h => absurd h (by simp)) (fun _ => ⟨by rw [hY0]; exact cA, z0⟩) (fun _ s h1 h2 => by rw [p0]; exact a_pc_nn.1)
        rw [if_pos trivial, if_pos trivial, p0, hY0] at r
        exact r
    · by_cases cB : U.testBit jn = true ∧ w ≤ Yj
      · refine i_joinT hL I en hA (R := 1) (o := some [((2 ^ jn : Nat) : Int), Yj]) (fun l z => by cases z; simp) ?_ ?_
        · refine q_enter (by decide +kernel) (by simp) (Nat.le_of_ble_eq_true rfl) ?_
          rw [if_pos cB.1] at ow
          refine bkX11_stops_0 (P4 := fun _ m2 => m2 27 jn = Y0 ∧ q_fx x_f m m2) (P6 := fun _ m4 r6 m6 => m6 = m4 ∧ r6 = (U : Int)) (P13 := fun _ _ _ _ _ m13 => m13 27 jn = Yj ∧ q_fx x_f m m13) (fun _ _ _ => by have := sC m 0 (by decide) q_fx.rf; rw [hY0] at this; exact this) (fun _ _ _ _ _ _ _ => by omega) (fun _ _ _ r4 m4 h4 _ _ => wr m4 h4.2) ?_ ?_ ?_ ?_ ?_ (fun _ _ _ _ _ _ _ _ _ _ _ _ _ _ _ _ _ _ => by decide) ?_ ?_ ?_ (fun _ _ _ _ _ _ _ _ _ => by decide) (fun _ _ _ r4 m4 h4 _ zz => absurd zz (by rw [h4.1]; exact cA)) (fun _ _ _ r4 m4 h4 _ zz => absurd zz (by rw [h4.1]; exact cA)) (fun _ _ z => absurd okv z) (fun _ z => absurd okw z) (fun z => absurd (by omega) z)
          · rintro _ _ _ r4 m4 ⟨h4, f4⟩ _ _ r6 m6 ⟨rfl, rfl⟩ _ zz
            rw [ow] at zz; omega
          · rintro _ _ _ r4 m4 ⟨h4, f4⟩ _ _ r6 m6 ⟨rfl, rfl⟩ _ zz
            rw [ow] at zz; omega
          · rintro _ _ _ r4 m4 ⟨h4, f4⟩ _ _ r6 m6 ⟨rfl, rfl⟩ _ zz
            rw [ow] at zz; omega
          · rintro _ _ _ r4 m4 ⟨h4, f4⟩ _ _ r6 m6 ⟨rfl, rfl⟩ _ zz
            rw [ow] at zz; omega
          · rintro _ _ _ r4 m4 ⟨h4, f4⟩ _ _ r6 m6 ⟨rfl, rfl⟩ _ zz
            rw [ow]
            have := sC m6 (2 ^ jn) zj5 f4
            rw [hYj] at this
            exact this
          · rintro _ _ _ r4 m4 ⟨h4, f4⟩ _ _ r6 m6 ⟨rfl, rfl⟩ _ zz r13 m13 ⟨h13, f13⟩ _ _ _
            rw [ow, h13]
            exact ⟨rfl, tel m13 _ Yj f13⟩
          · rintro _ _ _ r4 m4 ⟨h4, f4⟩ _ _ r6 m6 ⟨rfl, rfl⟩ _ zz r13 m13 ⟨h13, f13⟩ _ _ z2
            exact absurd z2 zz
          · rintro _ _ _ r4 m4 ⟨h4, f4⟩ _ _ r6 m6 ⟨rfl, rfl⟩ _ zz r13 m13 ⟨h13, f13⟩ _ z2
            rw [h13] at z2; omega
        · intro m1 f1
          have r := rf_stops (LW := LW) (k := k) (b := b) (m := m) (K m1 f1) T3 W3 okj okw hq True (2 ^ jn) (fun s hs h => by
            have hlt : s < 2 ^ jn := by simpa using h
            have := L1 s hs (Nat.testBit_lt_two_pow hlt)
            omega) (fun _ => ⟨by rw [hYj]; exact cB.2, zj⟩) (fun _ s h1 h2 => by rw [pj]; exact a_pc_pos (p512 h2 h9) (by omega))
          rw [if_pos trivial, if_pos trivial, pj, hYj] at r
          exact r
      · have none : ∀ s, s < 2 ^ n → (a_Y n T A q s).1 jn < w := fun s hs => by
          cases hb : s.testBit jn
          · have := L1 s hs hb; omega
          · have l2 := L2 s hs hb
            cases hu : U.testBit jn
            · have := L3 hu; omega
            · have : ¬ w ≤ Yj := fun h => cB ⟨hu, h⟩
              omega
        refine i_joinT hL I en hA (R := -2) (o := .none) (fun l z => by cases z) ?_ ?_
        · refine q_enter (by decide +kernel) (by simp) (Nat.le_of_ble_eq_true rfl) ?_
          have nj : Yj < w := by have := none (2 ^ jn) zj; rw [hYj] at this; exact this
          refine bkX11_stops_0 (P4 := fun _ m2 => m2 27 jn = Y0 ∧ q_fx x_f m m2) (P6 := fun _ m4 r6 m6 => m6 = m4 ∧ r6 = (U : Int)) (P13 := fun _ _ _ _ _ m13 => m13 27 jn = Yj ∧ q_fx x_f m m13) (fun _ _ _ => by have := sC m 0 (by decide) q_fx.rf; rw [hY0] at this; exact this) (fun _ _ _ _ _ _ _ => by omega) (fun _ _ _ r4 m4 h4 _ _ => wr m4 h4.2) (fun _ _ _ _ _ _ _ _ _ _ _ _ _ _ => by decide) ?_ ?_ ?_ ?_ (fun _ _ _ _ _ _ _ _ _ _ _ _ _ _ _ _ _ _ => by decide) ?_ ?_ ?_ (fun _ _ _ _ _ _ _ _ _ => by decide) (fun _ _ _ r4 m4 h4 _ zz => absurd zz (by rw [h4.1]; exact cA)) (fun _ _ _ r4 m4 h4 _ zz => absurd zz (by rw [h4.1]; exact cA)) (fun _ _ z => absurd okv z) (fun _ z => absurd okw z) (fun z => absurd (by omega) z)
          · rintro _ _ _ r4 m4 ⟨h4, f4⟩ _ _ r6 m6 ⟨rfl, rfl⟩ _ _ zz
            rw [h4] at zz; omega
          · rintro _ _ _ r4 m4 ⟨h4, f4⟩ _ _ r6 m6 ⟨rfl, rfl⟩ _ _ zz
            rw [h4] at zz; omega
          · rintro _ _ _ r4 m4 ⟨h4, f4⟩ _ _ r6 m6 ⟨rfl, rfl⟩ _ _ zz
            exact ⟨rfl, f4.mono x_f_tC, nor m6 f4⟩
          · rintro _ _ _ r4 m4 ⟨h4, f4⟩ _ _ r6 m6 ⟨rfl, rfl⟩ _ zz
            rw [ow] at zz ⊢
            cases hu : U.testBit jn
            · rw [hu] at zz; exact absurd rfl zz
            · have := sC m6 (2 ^ jn) zj5 f4
              rw [hYj] at this
              exact this
          · rintro _ _ _ r4 m4 ⟨h4, f4⟩ _ _ r6 m6 ⟨rfl, rfl⟩ _ zz r13 m13 ⟨h13, f13⟩ _ z2
            rw [h13] at z2; omega
          · rintro _ _ _ r4 m4 ⟨h4, f4⟩ _ _ r6 m6 ⟨rfl, rfl⟩ _ zz r13 m13 ⟨h13, f13⟩ _ z2
            rw [h13] at z2; omega
          · rintro _ _ _ r4 m4 ⟨h4, f4⟩ _ _ r6 m6 ⟨rfl, rfl⟩ _ zz r13 m13 ⟨h13, f13⟩ _ z2
            exact ⟨rfl, f13.mono x_f_tC, nor m13 f13⟩
        · intro m1 f1
          have r := rf_stops (LW := LW) (k := k) (b := b) (m := m) (K m1 f1) T3 W3 okj okw hq False 0 (fun s hs _ => none s hs) (fun h => absurd h id) (fun h => absurd h id)
          rw [if_neg id, if_neg id] at r
          exact r
  · refine i_joinT hL I en hA (R := -1) (o := none) (fun l z => by cases z) ?_ ?_
    · refine q_enter (by decide +kernel) (by simp) (Nat.le_of_ble_eq_true rfl) ?_
      exact bkX11_stops_0 (P4 := fun _ _ => True) (P6 := fun _ _ _ _ => True) (P13 := fun _ _ _ _ _ _ => True) (fun z1 z2 z3 => absurd (by omega) ok) (fun z1 z2 z3 => absurd (by omega) ok) (fun z1 z2 z3 => absurd (by omega) ok) (fun z1 z2 z3 => absurd (by omega) ok) (fun z1 z2 z3 => absurd (by omega) ok) (fun z1 z2 z3 => absurd (by omega) ok) (fun z1 z2 z3 => absurd (by omega) ok) (fun z1 z2 z3 => absurd (by omega) ok) (fun z1 z2 z3 => absurd (by omega) ok) (fun z1 z2 z3 => absurd (by omega) ok) (fun z1 z2 z3 => absurd (by omega) ok) (fun z1 z2 z3 => absurd (by omega) ok) (fun z1 z2 z3 => absurd (by omega) ok) (fun z1 z2 z3 => absurd (by omega) ok) (fun z1 z2 z3 => absurd (by omega) ok) (fun _ _ _ => ⟨rfl, q_fx.rf, rfl, fun _ => rfl⟩) (fun _ _ => ⟨rfl, q_fx.rf, rfl, fun _ => rfl⟩) (fun _ => ⟨rfl, q_fx.rf, rfl, fun _ => rfl⟩)
    · intro m1 f1
      have K1 := K m1 f1
      have e1 := K1.1.1
      refine q_enter (by decide +kernel) (by simp) (Nat.le_of_ble_eq_true rfl) ?_
      exact bkX12_stops_0 (q_in_of (by omega) (by omega)) (fun z1 z2 z3 => absurd (by omega) ok) (fun _ _ _ => ⟨rfl, r_no (m := m) K1⟩) (fun _ _ => ⟨rfl, r_no (m := m) K1⟩) (fun _ => ⟨rfl, r_no (m := m) K1⟩)
