/-! ===== saves ===== -/
def a_le (Z : Nat → Int) (b s : Nat) : Prop := Z b < Z s ∨ (Z b = Z s ∧ (a_pc b < a_pc s ∨ (a_pc b = a_pc s ∧ b ≤ s)))
theorem a_le.rf {Z : Nat → Int} {b : Nat} : a_le Z b b := Or.inr ⟨rfl, Or.inr ⟨rfl, Nat.le_refl b⟩⟩
theorem a_le.an {Z : Nat → Int} {b s : Nat} (h : a_le Z b s) (g : a_le Z s b) : b = s := by unfold a_le at h g; omega
def a_sb (s u : Nat) : Prop := ∀ i, s.testBit i = true → u.testBit i = true
theorem a_pc_and {s u : Nat} : a_pc (s &&& u) ≤ a_pc s ∧ (s < 512 → a_pc (s &&& u) = a_pc s → s &&& u = s) := by
  have le : ∀ j : Int, 0 ≤ j → j < (9 : Nat) → (if (s &&& u).testBit j.toNat then (1 : Int) else 0) ≤ (if s.testBit j.toNat then 1 else 0) := fun j _ _ => by
    rw [Nat.testBit_and]
    cases s.testBit j.toNat <;> cases u.testBit j.toNat <;> decide
  have ge : a_pc (s &&& u) ≤ a_pc s := by
    by_cases c : ∃ j : Int, 0 ≤ j ∧ j < (9 : Nat) ∧ (if (s &&& u).testBit j.toNat then (1 : Int) else 0) < (if s.testBit j.toNat then 1 else 0)
    · exact Int.le_of_lt (g_s_lt le c)
    · refine Int.le_of_eq (g_s_en (fun j a b => ?_))
      have l := le j a b
      have : ¬ (if (s &&& u).testBit j.toNat then (1 : Int) else 0) < (if s.testBit j.toNat then 1 else 0) := fun h => c ⟨j, a, b, h⟩
      omega
  refine ⟨ge, fun hs he => ?_⟩
  apply Nat.eq_of_testBit_eq
  intro i
  by_cases hi : i < 9
  · cases h1 : s.testBit i
    · rw [Nat.testBit_and, h1]; rfl
    · cases h2 : (s &&& u).testBit i
      · exfalso
        have := g_s_lt le ⟨(i : Int), by omega, by omega, by rw [Int.toNat_natCast, h1, h2]; decide⟩
        unfold a_pc at he
        omega
      · rfl
  · rw [Nat.testBit_and, Nat.testBit_lt_two_pow (Nat.lt_of_lt_of_le (show s < 2 ^ 9 by omega) (Nat.pow_le_pow_right (by decide) (by omega)))]
    rfl
theorem a_pc_sb {s u : Nat} (h : a_sb s u) : a_pc s ≤ a_pc u := by
  have e : u &&& s = s := by
    apply Nat.eq_of_testBit_eq
    intro i
    rw [Nat.testBit_and]
    cases h1 : s.testBit i
    · simp
    · rw [h i h1]; rfl
  have := (a_pc_and (s := u) (u := s)).1
  rw [e] at this
  exact this
theorem a_sb_and {s u : Nat} : a_sb (s &&& u) u ∧ s &&& u ≤ s := ⟨fun i h => by
  rw [Nat.testBit_and, Bool.and_eq_true] at h
  exact h.2, Nat.and_le_left⟩
theorem a_sb_le {s u : Nat} (h : a_sb s u) : s ≤ u := by
  have e : u &&& s = s := by
    apply Nat.eq_of_testBit_eq
    intro i
    rw [Nat.testBit_and]
    cases h1 : s.testBit i
    · simp
    · rw [h i h1]; rfl
  rw [← e]; exact Nat.and_le_left
theorem sp_isChoice {b : Int} {m : qm} {s u : Nat} {z : Int} (hs : s < 512) (hu : u < 512) : q_Ev yX11_isChoice cX11_isChoice 3 (some .boolean) 2 0 0 [(0, (s : Int)), (0, (u : Int)), (0, z)] (q_sh0, q_rb b, m) (qK (q_rb b) (fun r m' => m' = m ∧ ((r = 1 ∧ a_sb s u ∧ a_pc s = z) ∨ (r = 0 ∧ ¬ (a_sb s u ∧ a_pc s = z))))) := by
  have hi := q_sub_iff (s := s) (u := u)
  have hi2 : q_oiand (s : Int) (q_oixor (u : Int) (-1)) = 0 ↔ a_sb s u := by
    constructor
    · intro h i hb
      by_cases h32 : i < 32
      · exact hi.mp h i h32 hb
      · have h5 := Nat.testBit_lt_two_pow (i := i) (Nat.lt_of_lt_of_le (show s < 2 ^ 9 by omega) (Nat.pow_le_pow_right (by decide) (by omega)))
        rw [h5] at hb
        exact absurd hb (by decide)
    · exact fun h => hi.mpr (fun i _ hb => h i hb)
  refine q_enter (by decide +kernel) (by simp) (Nat.le_of_ble_eq_true rfl) ?_
  refine bkX11_isChoice_0 (fun z1 => ⟨rfl, Or.inr ⟨rfl, fun h => z1 (hi2.mpr h.1)⟩⟩) (fun _ => sp_bitCount hs) ?_ ?_
  · rintro z1 r2 m2 ⟨rfl, rfl⟩ _ z2
    exact ⟨rfl, Or.inr ⟨rfl, fun h => z2 h.2⟩⟩
  · rintro z1 r2 m2 ⟨rfl, rfl⟩ _ z2
    exact ⟨rfl, Or.inl ⟨rfl, hi2.mp z1, z2⟩⟩
theorem op_saves {LW : qm → Prop} (hL : i_Lf LW) {k : Nat} {b : Int} {m : qm} (I : i_I LW k m) (w v : Int) :
    q_Ev yX11_saves cX11_saves 9 (some .int) 5 0 0 [(2, 0), (0, w), (0, v)] (q_sh0, q_rb b, m) (qK (q_rb b) (fun r m1 => q_Ev yX12_saves cX12_saves 8 (some .int) 4 0 0 [(2, 188), (0, w), (0, v)] (q_sh0, q_rb b, m1) (i_O LW (k + 1) r))) := by
  obtain ⟨n, en, T1, T3, W1, W3, K⟩ := i_knowT I
  have h9 := T3.1
  have e0 := T1.1
  generalize hA : a_of m = A at W1 W3 K
  generalize hT : a_Tof m = T at T1 T3 W3 K
  by_cases ok : (0 ≤ w ∧ w ≤ 9) ∧ (0 ≤ v ∧ v ≤ 200)
  · obtain ⟨okw, okv⟩ := ok
    obtain ⟨q, rfl⟩ : ∃ q : Nat, v = q := ⟨v.toNat, by omega⟩
    have hq : q ≤ 200 := by omega
    have z0 : (0 : Nat) < 2 ^ n := Nat.pow_pos (by decide)
    have hn512 : (2 ^ n : Nat) ≤ 512 := Nat.le_trans (Nat.pow_le_pow_right (by decide) h9) (by decide)
    have Ui := a_bn_in (p := a_us T A q) n
    generalize hU : a_bn (a_us T A q) n = U at Ui
    have U5 : U < 512 := by have := Ui.1; omega
    obtain ⟨Z, hZ⟩ : ∃ Z : Nat → Int, ∀ s, Z s = (a_Y n T A q s).2.2 := ⟨_, fun _ => rfl⟩
    have Z0 : ∀ s, 0 ≤ Z s ∧ Z s ≤ 16200 := fun s => by
      have := f_it_lost (a_hs_ok T3 W3 s) q
      have e : (a_x0 A).2.2 = 0 := rfl
      rw [hZ]; unfold a_Y; omega
    have Zand : ∀ s, Z (s &&& U) = Z s := fun s => by
      rw [hZ, hZ]
      refine (a_Y_and T3 W3 q (s &&& U) s (fun j a b => ?_)).2
      have hh := (T3.2 j a b).2.2.2.2.2.2.1
      have Ub : U.testBit j.toNat = a_us T A q j := by rw [Ui.2, decide_eq_true (show j.toNat < n by omega), Bool.true_and, Int.toNat_of_nonneg a]
      rw [Nat.testBit_and]
      cases hu : U.testBit j.toNat
      · rw [Ub] at hu
        have hb := of_decide_eq_false hu
        right; omega
      · left; simp
    have p0 : a_pc 0 = 0 := by decide
    have pU := (a_pc_nn (s := U))
    -- the class's choice
    refine q_Ev.post (P := fun r m1 => ∃ bc : Nat, a_sb bc U ∧ a_pc bc ≤ w ∧ (∀ s, a_sb s U → a_pc s ≤ w → a_le Z bc s) ∧ r = Z bc ∧ q_fx x_tC m m1 ∧ i_rc m m1 (some [(bc : Int)])) ?_ ?_
    · have sC : ∀ (m' : qm) (s : Nat), s < 512 → q_fx x_f m m' → q_Ev yX11_goStopped cX11_goStopped 4 none 4 0 0 [(2, 0), (0, (s : Int)), (0, (q : Int))] (q_sh0, q_rb b, m') (qK (q_rb b) (fun _ m2 => m2 26 7 = Z s ∧ q_fx x_f m m2)) := fun m' s hs fx => (sp_goStoppedC (T1.fr fx (by unfold x_f; omega)) (W1.fr fx (by unfold x_f w_z; omega)) T3 W3 hs hq).post (fun r m2 h => ⟨by rw [hZ]; exact h.2.1, fx.tr h.2.2⟩)
      have tel : ∀ (m' : qm) (a : Int), q_fx x_f m m' → q_fx x_tC m (q_up (q_up (q_up m' 0 16 0) 169 0 a) 0 16 (0 + 1)) ∧ i_rc m (q_up (q_up (q_up m' 0 16 0) 169 0 a) 0 16 (0 + 1)) (some [a]) := fun m' a fx => by
        have h1 := i_rw.tell (v := a) (i_rw.clear (m := m') (q_fx.rf (X := x_F)))
        rw [show (q_up m' 0 16 0) 0 16 = 0 from q_up_s] at h1
        exact ⟨(fx.mono x_f_tC).tr (h1.1.mono x_F_tC), h1.2.1, h1.2.2⟩
      refine q_enter (by decide +kernel) (by simp) (Nat.le_of_ble_eq_true rfl) ?_
      refine bkX11_saves_0 (P4 := fun r m2 => m2 = m ∧ r = (U : Int)) (P5 := fun _ _ r m2 => m2 = m ∧ r = a_pc U) (P6 := fun _ _ _ _ _ m2 => m2 26 7 = Z 0 ∧ q_fx x_f m m2) (fun z => absurd z (by omega)) (fun _ z => absurd z (by omega)) (fun _ _ _ => by have := sp_worth (b := b) (q := q) T1 W1 T3 W3; rw [hU] at this; exact this) ?_ ?_ ?_ (fun _ _ z => absurd okv z)
      · rintro _ _ _ r4 m4 ⟨rfl, rfl⟩ _
        exact sp_bitCount U5
      · rintro _ _ _ r4 m4 ⟨rfl, rfl⟩ _ r5 m5 ⟨rfl, rfl⟩ _
        exact sC m5 0 (by decide) q_fx.rf
      · rintro _ _ _ r4 m4 ⟨em4, rfl⟩ _ r5 m5 ⟨em5, rfl⟩ _ r6 m6 ⟨h6, f6⟩ _
        rw [h6]
        have start : ∀ s, a_sb s U → a_pc s < 1 → a_le Z 0 s := fun s hs hp => by
          have : s = 0 := by
            by_cases c : s = 0
            · exact c
            · have := a_pc_pos (Nat.lt_of_le_of_lt (a_sb_le hs) U5) c; omega
          rw [this]; exact a_le.rf
        refine q_for' (A := fun i (x : Nat) m' => q_At yX11_saves cX11_saves 9 (some .int) 5 0 0 _ 56 [(2, 0), (0, w), (0, (q : Int)), (0, (U : Int)), (0, min w (a_pc U)), (0, Z x), (0, (x : Int)), (0, i), (4, 0)] [] (q_sh0, q_rb b, m')) (fun i x m' => 1 ≤ i ∧ i ≤ min w (a_pc U) + 1 ∧ a_sb x U ∧ a_pc x < i ∧ (∀ s, a_sb s U → a_pc s < i → a_le Z x s) ∧ q_fx x_f m m') (min w (a_pc U)) ?_ ?_ 1 0 m6 ⟨by omega, by omega, fun i h => by simp at h, by show a_pc 0 < 1; omega, start, f6⟩
        · rintro i bc m' hi ⟨i0, i1, hb, hp, hall, fx⟩
          refine bkX11_saves_56 (fun _ => by decide) (fun _ => ⟨bc, hb, ?_, fun s hs hw => hall s hs ?_, rfl, tel m' _ fx⟩) (fun _ _ => by decide) (fun z => absurd z (by omega)) (fun z => absurd z (by omega))
          · have : a_pc bc < i := hp
            omega
          · have := a_pc_sb hs
            omega
        · rintro i bc m' hi ⟨i0, i1, hb, hp, hall, fx⟩ ih
          have hp : a_pc bc < i := hp
          have hb : a_sb bc U := hb
          have hall : ∀ s, a_sb s U → a_pc s < i → a_le Z bc s := hall
          refine bkX11_saves_56 (fun z => absurd z (by omega)) (fun z => absurd z (by omega)) (fun _ _ => by decide) (fun _ z => ⟨bc, hb, by omega, fun s hs hw => ?_, rfl, tel m' _ fx⟩) (fun _ _ => ?_)
          · have z : Z bc ≤ 0 := z
            by_cases c : a_pc s < i
            · exact hall s hs c
            · have := Z0 s
              have := Z0 bc
              unfold a_le
              omega
          · refine q_for' (A := fun y (x : Nat) m' => q_At yX11_saves cX11_saves 9 (some .int) 5 0 0 _ 71 [(2, 0), (0, w), (0, (q : Int)), (0, (U : Int)), (0, min w (a_pc U)), (0, Z x), (0, (x : Int)), (0, i), (0, y)] [] (q_sh0, q_rb b, m')) (fun y x m' => ∃ yn : Nat, y = yn ∧ 1 ≤ yn ∧ yn ≤ U + 1 ∧ a_sb x U ∧ (a_pc x < i ∨ (a_pc x = i ∧ x < yn)) ∧ (∀ s, a_sb s U → (a_pc s < i ∨ (a_pc s = i ∧ s < yn)) → a_le Z x s) ∧ q_fx x_f m m') U ?_ ?_ 1 bc m' ⟨1, rfl, by omega, by omega, hb, Or.inl hp, fun s hs h => hall s hs (by
              rcases h with h | h
              · exact h
              · have : s = 0 := by omega
                rw [this, p0]; omega), fx⟩
            · rintro y bd m2 hy ⟨yn, rfl, y0, y1, hb2, hp2, hall2, fx2⟩
              exact bkX11_saves_71 (P2 := fun _ _ => True) (P4 := fun _ _ _ _ => True) (fun _ => q_in_of (by omega) (by omega)) (fun _ => ih bd m2 ⟨by omega, by omega, hb2, by omega, fun s hs hps => hall2 s hs (by
                have := a_sb_le hs
                by_cases c : a_pc s < i
                · exact Or.inl c
                · exact Or.inr ⟨by omega, by omega⟩), fx2⟩) (fun z => absurd z (by omega)) (fun z => absurd z (by omega)) (fun z => absurd z (by omega)) (fun z => absurd z (by omega)) (fun z => absurd z (by omega)) (fun z => absurd z (by omega)) (fun z => absurd z (by omega)) (fun z => absurd z (by omega))
            · rintro y bd m2 hy ⟨yn, rfl, y0, y1, hb2, hp2, hall2, fx2⟩ ih2
              have hb2 : a_sb bd U := hb2
              have hall2 : ∀ s, a_sb s U → (a_pc s < i ∨ (a_pc s = i ∧ s < yn)) → a_le Z bd s := hall2
              have y5 : yn < 512 := by omega
              have hin : q_in32 ((yn : Int) + 1) := q_in_of (by omega) (by omega)
              refine bkX11_saves_71 (P2 := fun r2 m3 => m3 = m2 ∧ ((r2 = 1 ∧ a_sb yn U ∧ a_pc yn = i) ∨ (r2 = 0 ∧ ¬ (a_sb yn U ∧ a_pc yn = i)))) (P4 := fun _ _ _ m4 => m4 26 7 = Z yn ∧ q_fx x_f m m4) (fun z => absurd z (by omega)) (fun z => absurd z (by omega)) (fun _ => sp_isChoice y5 U5) ?_ (fun _ _ _ _ _ _ _ _ _ _ _ => hin) ?_ (fun _ _ _ _ _ _ _ _ _ _ _ => hin) ?_ (fun _ _ _ _ _ _ => hin) ?_
              · rintro _ r2 m3 ⟨rfl, h2⟩ _ _
                exact sC m3 yn y5 fx2
              · rintro _ r2 m3 ⟨rfl, h2⟩ _ z2 r4 m4 ⟨h4, f4⟩ _ hz
                rw [h4] at hz
                have hz : Z bd ≤ Z yn := hz
                have h2 := (h2.resolve_right (fun h => z2 h.1)).2
                refine ih2 bd m4 ⟨yn + 1, by omega, by omega, by omega, hb2, by omega, fun s hs h => ?_, f4⟩
                by_cases c : s = yn
                · subst c
                  unfold a_le
                  omega
                · exact hall2 s hs (by omega)
              · rintro _ r2 m3 ⟨rfl, h2⟩ _ z2 r4 m4 ⟨h4, f4⟩ _ hz
                rw [h4] at hz ⊢
                have hz : Z yn < Z bd := hz
                have h2 := (h2.resolve_right (fun h => z2 h.1)).2
                refine ih2 yn m4 ⟨yn + 1, by omega, by omega, by omega, h2.1, Or.inr ⟨h2.2, by omega⟩, fun s hs h => ?_, f4⟩
                by_cases c : s = yn
                · rw [c]; exact a_le.rf
                · have := hall2 s hs (by omega)
                  unfold a_le at this ⊢
                  omega
              · rintro _ r2 m3 ⟨rfl, h2⟩ _ z2
                have h2 : ¬ (a_sb yn U ∧ a_pc yn = i) := by
                  rcases h2 with h2 | h2
                  · omega
                  · exact h2.2
                refine ih2 bd m3 ⟨yn + 1, by omega, by omega, by omega, hb2, by omega, fun s hs h => hall2 s hs ?_, fx2⟩
                by_cases c : s = yn
                · subst c
                  left
                  rcases h with h | h
                  · exact h
                  · exact absurd ⟨hs, h.1⟩ h2
                · omega
    · rintro r1 m1 ⟨bc, c1, c2, c3, er, f1, g1⟩
      have b5 : bc < 2 ^ n := Nat.lt_of_le_of_lt (a_sb_le c1) Ui.1
      -- it is the least of all
      have all : ∀ s, s < 2 ^ n → a_pc s ≤ w → a_le Z bc s := fun s hs hw => by
        have pa := a_pc_and (s := s) (u := U)
        have sb := a_sb_and (s := s) (u := U)
        have l := c3 (s &&& U) sb.1 (by omega)
        have zz := Zand s
        have pe : a_pc (s &&& U) = a_pc s → s &&& U = s := pa.2 (by omega)
        unfold a_le at l ⊢
        rw [zz] at l
        rcases l with l | ⟨l, l2⟩
        · exact Or.inl l
        · refine Or.inr ⟨l, ?_⟩
          rcases l2 with l2 | ⟨l2, l3⟩
          · left; omega
          · by_cases c : a_pc (s &&& U) = a_pc s
            · have := pe c
              right; omega
            · left; omega
      rw [er]
      have I2 := I
      obtain ⟨n', t, p, a, x, rr, ss, u, kk, l⟩ := I2
      have en' : n' = n := by have := t.2.2.1; omega
      subst en'
      obtain ⟨T2, W2⟩ := K m1 f1
      have e1 := T2.1
      refine i_O_of (b := b) (q_Ev.post (P := fun r m2 => r = Z bc ∧ q_fx x_tM m1 m2 ∧ r_W m2 n' A ∧ i_rr m1 m2 (some [(bc : Int)])) ?_ ?_)
      · refine q_enter (by decide +kernel) (by simp) (Nat.le_of_ble_eq_true rfl) ?_
        refine bkX12_saves_0 (fun _ _ => ?_) (fun _ z => absurd okv z) (fun z => absurd okw z)
        have sh : ∀ m' : qm, m' 188 0 = n' → q_oishl 1 (m' 188 0) = ((2 ^ n' : Nat) : Int) := fun m' h => by rw [h]; exact q_shl1 (by omega)
        refine q_for1 (A := fun i (x : Int × Int) m' => q_At yX12_saves cX12_saves 8 (some .int) 4 0 0 _ 32 [(2, 188), (0, w), (0, (q : Int)), (0, x.1), (0, x.2), (0, i), (4, 0), (4, 0)] [] (q_sh0, q_rb b, m')) (fun i x m' => ∃ y : Nat, i = y ∧ y ≤ 2 ^ n' ∧ q_fx x_g7 m1 m' ∧ ((y = 0 ∧ x = (-1, 0)) ∨ (0 < y ∧ ∃ br : Nat, br < y ∧ a_pc br ≤ w ∧ x = ((br : Int), Z br) ∧ ∀ s, s < y → a_pc s ≤ w → a_le Z br s))) ((2 ^ n' : Nat) : Int) ?_ ?_ 0 (-1, 0) _ ⟨0, rfl, Nat.zero_le _, q_fx.rf.up (Or.inr ⟨rfl, rfl⟩), Or.inl ⟨rfl, rfl⟩⟩
        · rintro i ⟨x1, x2⟩ m' hi ⟨y, rfl, hy, fx, hx⟩
          have hyy : y = 2 ^ n' := by omega
          have e2 : m' 188 0 = n' := (fx _ _ (by unfold x_g7 x_g; omega)).trans e1
          have es := sh m' e2
          have W2' := W2.fr fx (by unfold x_g7 x_g; omega)
          obtain ⟨-, br, b1, b2, hx, b3⟩ := hx.resolve_left (fun h => by omega)
          cases hx
          have : br = bc := (b3 bc (by omega) c2).an (all br (by omega) b2)
          subst this
          have h1 := i_mw.tell (v := (br : Int)) (i_mw.clear (m := m') (q_fx.rf (X := x_G)))
          rw [show (q_up m' 188 16 0) 188 16 = 0 from q_up_s] at h1
          exact bkX12_saves_32 (P3 := fun _ _ => True) (P5 := fun _ _ _ _ => True) (P9 := fun _ _ _ _ _ _ => True) (P10 := fun _ _ _ _ _ _ _ _ => True) (fun _ => by decide) (fun _ => ⟨rfl, (fx.mono x_g7_tM).tr (h1.1.mono x_G_tM), W2'.fr h1.1 (by unfold x_G; omega), h1.2.1, h1.2.2⟩) (fun zz => absurd zz (by omega)) (fun zz => absurd zz (by omega)) (fun zz => absurd zz (by omega)) (fun zz => absurd zz (by omega)) (fun zz => absurd zz (by omega)) (fun zz => absurd zz (by omega)) (fun zz => absurd zz (by omega)) (fun zz => absurd zz (by omega)) (fun zz => absurd zz (by omega)) (fun zz => absurd zz (by omega)) (fun zz => absurd zz (by omega)) (fun zz => absurd zz (by omega)) (fun zz => absurd zz (by omega)) (fun zz => absurd zz (by omega)) (fun zz => absurd zz (by omega)) (fun zz => absurd zz (by omega))
        · rintro i ⟨x1, x2⟩ m' hi ⟨y, rfl, hy, fx, hx⟩ ih
          have e2 : m' 188 0 = n' := (fx _ _ (by unfold x_g7 x_g; omega)).trans e1
          have es := sh m' e2
          have hy2 : y < 2 ^ n' := by omega
          have y5 : y < 512 := by omega
          have T2' := T2.fr fx (by unfold x_g7 x_g; omega)
          have W2' := W2.fr fx (by unfold x_g7 x_g; omega)
          have hin : q_in32 ((y : Int) + 1) := q_in_of (by omega) (by omega)
          have new : ∀ (r5 : Int) (m5 : qm), r5 = Z y → q_fx x_g7 m1 m5 → a_pc y ≤ w → (∀ s, s < y → a_pc s ≤ w → a_le Z y s) → q_At yX12_saves cX12_saves 8 (some .int) 4 0 0 (qK (q_rb b) (fun r m2 => r = Z bc ∧ q_fx x_tM m1 m2 ∧ r_W m2 n' A ∧ i_rr m1 m2 (some [(bc : Int)]))) 32 [(2, 188), (0, w), (0, (q : Int)), (0, (y : Int)), (0, r5), (0, (y : Int) + 1), (4, 0), (4, 0)] [] (q_sh0, q_rb b, m5) := fun r5 m5 hr f5 hw hs => by
            refine ih ((y : Int), r5) m5 ⟨y + 1, by omega, by omega, f5, Or.inr ⟨by omega, y, by omega, hw, by rw [hr], fun s h1 h2 => ?_⟩⟩
            by_cases c : s = y
            · rw [c]; exact a_le.rf
            · exact hs s (by omega) h2
          have old : ∀ (m5 : qm), q_fx x_g7 m1 m5 → 0 < y → (∀ br : Nat, x1 = (br : Int) → x2 = Z br → a_pc y ≤ w → a_le Z br y) → q_At yX12_saves cX12_saves 8 (some .int) 4 0 0 (qK (q_rb b) (fun r m2 => r = Z bc ∧ q_fx x_tM m1 m2 ∧ r_W m2 n' A ∧ i_rr m1 m2 (some [(bc : Int)]))) 32 [(2, 188), (0, w), (0, (q : Int)), (0, x1), (0, x2), (0, (y : Int) + 1), (4, 0), (4, 0)] [] (q_sh0, q_rb b, m5) := fun m5 f5 hy0 hle => by
            obtain ⟨-, br, b1, b2, hx, b3⟩ := hx.resolve_left (fun h => by omega)
            cases hx
            refine ih ((br : Int), Z br) m5 ⟨y + 1, by omega, by omega, f5, Or.inr ⟨by omega, br, by omega, b2, rfl, fun s h1 h2 => ?_⟩⟩
            by_cases c : s = y
            · rw [c]; exact hle br rfl rfl (by rw [← c]; exact h2)
            · exact b3 s (by omega) h2
          have y0p : y = 0 → a_pc y = 0 := fun h => by rw [h]; exact p0
          have x1n : x1 = -1 → y = 0 := fun h => by
            rcases hx with hx | ⟨-, br, -, -, hx, -⟩
            · exact hx.1
            · have := congrArg Prod.fst hx; simp only at this; omega
          have x1p : x1 ≠ -1 → 0 < y ∧ ∃ br : Nat, br < y ∧ a_pc br ≤ w ∧ x1 = (br : Int) ∧ x2 = Z br ∧ ∀ s, s < y → a_pc s ≤ w → a_le Z br s := fun h => by
            rcases hx with hx | ⟨hy0, br, b1, b2, hx, b3⟩
            · have := congrArg Prod.fst hx.2; exact absurd this h
            · exact ⟨hy0, br, b1, b2, congrArg Prod.fst hx, congrArg Prod.snd hx, b3⟩
          refine bkX12_saves_32 (P3 := fun r3 m3 => m3 = m' ∧ r3 = a_pc y) (P5 := fun _ _ r5 m5 => r5 = Z y ∧ q_fx x_g7 m1 m5) (P9 := fun _ _ _ m5 r9 m9 => m9 = m5 ∧ r9 = a_pc y) (P10 := fun _ _ _ m5 _ m9 r10 m10 => m10 = m9 ∧ ∀ br : Nat, x1 = (br : Int) → r10 = a_pc br) (fun zz => absurd zz (by omega)) (fun zz => absurd zz (by omega)) (fun _ => sp_bitCount y5) ?_ (fun _ _ _ _ _ _ _ _ _ _ _ => hin) ?_ (fun _ _ _ _ _ _ _ _ _ _ _ _ => hin) ?_ (fun _ _ _ _ _ _ _ _ _ _ _ _ _ => hin) ?_ ?_ ?_ (fun _ _ _ _ _ _ _ _ _ _ _ _ _ _ _ _ _ _ _ _ _ _ => hin) ?_ (fun _ _ _ _ _ _ _ _ _ _ _ _ _ _ _ _ _ _ _ _ _ _ => hin) ?_ (fun _ _ _ _ _ _ => hin) ?_
          · rintro _ r3 m3 ⟨rfl, rfl⟩ _ _
            exact (sp_goStoppedM T2' W2' T3 W3 y5 hq).post (fun r m5 h => ⟨by rw [hZ]; exact h.2.1, fx.tr (h.2.2.mono (fun c i z => Or.inl z))⟩)
          · rintro _ r3 m3 ⟨rfl, rfl⟩ _ hw r5 m5 ⟨h5, f5⟩ _ hm
            exact new r5 m5 h5 f5 hw (fun s hs => absurd hs (by have := x1n hm; omega))
          · rintro _ r3 m3 ⟨rfl, rfl⟩ _ hw r5 m5 ⟨h5, f5⟩ _ hm hlt
            obtain ⟨-, br, b1, b2, b4, b5, b3⟩ := x1p hm
            refine new r5 m5 h5 f5 hw (fun s hs hw2 => ?_)
            have := b3 s hs hw2
            unfold a_le at this ⊢
            omega
          · rintro _ r3 m3 ⟨rfl, rfl⟩ _ hw r5 m5 ⟨h5, f5⟩ _ hm hge hne
            refine old m5 f5 (x1p hm).1 (fun br _ h2 _ => Or.inl (by omega))
          · rintro _ r3 m3 ⟨rfl, rfl⟩ _ hw r5 m5 ⟨h5, f5⟩ _ hm hge hne
            exact sp_bitCount y5
          · rintro _ r3 m3 ⟨rfl, rfl⟩ _ hw r5 m5 ⟨h5, f5⟩ _ hm hge hne r9 m9 ⟨rfl, rfl⟩ _
            obtain ⟨-, br, b1, b2, b4, b5, b3⟩ := x1p hm
            rw [b4]
            exact (sp_bitCount (by omega)).post (fun r m10 h => ⟨h.1, fun br2 h2 => by rw [show br2 = br by omega]; exact h.2⟩)
          · rintro _ r3 m3 ⟨rfl, rfl⟩ _ hw r5 m5 ⟨h5, f5⟩ _ hm hge hne r9 m9 ⟨rfl, rfl⟩ _ r10 m10 ⟨rfl, h10⟩ _ hpc
            refine old m10 f5 (x1p hm).1 (fun br h1 h2 _ => ?_)
            have := h10 br h1
            obtain ⟨-, br', b1, b2, b4, b5, b3⟩ := x1p hm
            have : br = br' := by omega
            subst this
            unfold a_le
            omega
          · rintro _ r3 m3 ⟨rfl, rfl⟩ _ hw r5 m5 ⟨h5, f5⟩ _ hm hge hne r9 m9 ⟨rfl, rfl⟩ _ r10 m10 ⟨rfl, h10⟩ _ hpc
            obtain ⟨-, br, b1, b2, b4, b5, b3⟩ := x1p hm
            have e10 := h10 br b4
            refine new r5 m10 h5 f5 hw (fun s hs hw2 => ?_)
            have := b3 s hs hw2
            unfold a_le at this ⊢
            omega
          · rintro _ r3 m3 ⟨rfl, rfl⟩ _ hw
            have hy0 : 0 < y := by
              by_cases c : y = 0
              · have := y0p c; omega
              · omega
            exact old m3 fx hy0 (fun br _ _ h => absurd h (by omega))
      · rintro r2 m2 ⟨rfl, f2, w2, g2⟩
        refine ⟨rfl, i_I.look hL t p a x ss u kk l f1 f2 (by rw [hA]; exact w2) ?_⟩
        exact i_row rr (o := some [(bc : Int)]) (fun l z => by cases z; simp) g1 g2 ⟨f2 0 16 (by unfold x_tM; omega), fun i => f2 169 i (by unfold x_tM; omega)⟩ ⟨f1 188 16 (by unfold x_tC; omega), fun i => f1 199 i (by unfold x_tC; omega)⟩
  · refine i_joinT hL I en hA (R := -1) (o := none) (fun l z => by cases z) ?_ ?_
    · refine q_enter (by decide +kernel) (by simp) (Nat.le_of_ble_eq_true rfl) ?_
      exact bkX11_saves_0 (P4 := fun _ _ => True) (P5 := fun _ _ _ _ => True) (P6 := fun _ _ _ _ _ _ => True) (fun _ => ⟨rfl, q_fx.rf, rfl, fun _ => rfl⟩) (fun _ _ => ⟨rfl, q_fx.rf, rfl, fun _ => rfl⟩) (fun z1 z2 z3 => absurd (by omega) ok) (fun z1 z2 z3 => absurd (by omega) ok) (fun z1 z2 z3 => absurd (by omega) ok) (fun z1 z2 z3 => absurd (by omega) ok) (fun _ _ _ => ⟨rfl, q_fx.rf, rfl, fun _ => rfl⟩)
    · intro m1 f1
      have K1 := K m1 f1
      refine q_enter (by decide +kernel) (by simp) (Nat.le_of_ble_eq_true rfl) ?_
      exact bkX12_saves_0 (fun z1 z2 => absurd (by omega) ok) (fun _ _ => ⟨rfl, r_no (m := m) K1⟩) (fun _ => ⟨rfl, r_no (m := m) K1⟩)
