theorem q_for' {α : Type} {A : Int → α → qm → Prop} (I : Int → α → qm → Prop) (n : Int) (hx : ∀ i x m, n < i → I i x m → A i x m) (hs : ∀ i x m, i ≤ n → I i x m → (∀ x' m', I (i + 1) x' m' → A (i + 1) x' m') → A i x m) : ∀ i x m, I i x m → A i x m :=
  q_for1 I (n + 1) (fun i x m h => hx i x m (by omega)) (fun i x m h => hs i x m (by omega))
/-! flood -/
theorem cl_flood {k n : Nat} {b : Int} {m : qm} (h : i_B k n m) (j v : Int) : q_Ev yX11_flood cX11_flood 6 (some .int) 3 0 0 [(2, 0), (0, j), (0, v)] (q_sh0, q_rb b, m) (qK (q_rb b) (fun r m1 => r = a_flood n m j v ∧ q_fx x_F m m1 ∧ i_rc m m1 (o_flood n m j v))) := by
  obtain ⟨t, p, a⟩ := h
  have t1 := t.1
  have t2 := t.2.1
  refine q_enter (by decide +kernel) (by simp) (Nat.le_of_ble_eq_true rfl) ?_
  refine bkX11_flood_0 (fun _ _ => sp_start q_st5) (fun _ _ _ _ _ _ => by omega) (fun hj hv r3 m3 h3 _ => ?_) (fun _ hv => ?_) (fun hj => ?_)
  · obtain ⟨c0, ok⟩ := i_cf0 t p a h3
    refine q_for' (A := fun i (x : Int × Int) m' => q_At yX11_flood cX11_flood 6 (some .int) 3 0 0 _ 44 [(2, 0), (0, j), (0, v), (0, x.1), (0, x.2), (0, i)] [] (q_sh0, q_rb b, m')) (fun i x m' => ∃ w : Nat, i = w + 1 ∧ (w : Int) ≤ v ∧ i_cf n m w m' ∧ x = a_most n m j w) v ?_ ?_ 1 (m3 27 j, 0) m3 ⟨0, by omega, by omega, c0, ?_⟩
    · rintro i x m' hi ⟨w, rfl, hw, hc, rfl⟩
      have hwv : v.toNat = w := by omega
      refine bkX11_flood_44 (fun _ => by omega) (fun _ => ?_) (P4 := fun _ _ => True) (fun z => absurd z (by omega)) (fun z => absurd z (by omega)) (fun z => absurd z (by omega)) (fun z => absurd z (by omega)) (fun z => absurd z (by omega)) (fun z => absurd z (by omega))
      refine ⟨?_, (((i_cf_fx hc).up (by decide)).up (by simp [x_F])).up (by decide), ?_⟩
      · unfold a_flood; rw [if_pos ⟨by omega, hv⟩, hwv]
      · unfold o_flood; rw [if_pos ⟨by omega, hv⟩, hwv]
        refine ⟨by rw [q_up_s]; rfl, fun i hi => ?_⟩
        have : i = 0 := by simp at hi; omega
        subst this
        simp [q_up]
    · rintro i x m' hi ⟨w, rfl, hw, hc, rfl⟩ ih
      have lo := i_cf_lost ok hc
      refine bkX11_flood_44 (fun z => absurd z (by omega)) (fun z => absurd z (by omega)) (fun _ => sp_strike' n hc.1 (by omega)) (fun _ _ _ _ _ => by omega) (fun _ _ _ _ _ _ => q_in_of (by omega) (by omega)) (fun _ r4 m4 h4 _ z => ?_) (fun _ _ _ _ _ _ => q_in_of (by omega) (by omega)) (fun _ r4 m4 h4 _ z => ?_)
      · have c1 := i_cf1 ok hc h4
        have e : m4 27 j = (i_f n m (w + 1)).1 j := (c1.2.2.2.2.1.1 j (by omega) (by omega)).1
        refine ih (a_most n m j w) m4 ⟨w + 1, by omega, by omega, c1, ?_⟩
        simp only [a_most]; rw [if_neg (by omega)]
      · have c1 := i_cf1 ok hc h4
        have e : m4 27 j = (i_f n m (w + 1)).1 j := (c1.2.2.2.2.1.1 j (by omega) (by omega)).1
        refine ih (m4 27 j, (w : Int) + 1) m4 ⟨w + 1, by omega, by omega, c1, ?_⟩
        simp only [a_most]; rw [if_pos (by omega), e]
    · have e : m3 27 j = (i_f n m 0).1 j := (c0.2.2.2.2.1.1 j (by omega) (by omega)).1
      simp only [a_most]; rw [e]; rfl
  · refine ⟨?_, q_fx.rf, ?_⟩
    · unfold a_flood; rw [if_neg (fun z => hv z.2)]
    · unfold o_flood; rw [if_neg (fun z => hv z.2)]; exact ⟨rfl, fun _ => rfl⟩
  · refine ⟨?_, q_fx.rf, ?_⟩
    · unfold a_flood; rw [if_neg (fun z => hj (by rw [t2]; exact z.1))]
    · unfold o_flood; rw [if_neg (fun z => hj (by rw [t2]; exact z.1))]; exact ⟨rfl, fun _ => rfl⟩
theorem i_mf_fx {n : Nat} {m m3 : qm} {v : Nat} {x : Int} (h : i_mf n m v x m3) : q_fx x_G m m3 := h.2.2.2.2.2.mono (by intro c i; simp only [x_G]; omega)
theorem i_g0 {k n : Nat} {m : qm} (h : i_B k n m) : i_B k n (q_up m 188 17 0) := h.fr (X := x_G) (q_fx.rf.up (by decide)) x_G_B
theorem i_g0f {n : Nat} {m : qm} (v : Nat) : i_f n (q_up m 188 17 0) v = i_f n m v := i_f_fr (X := x_G) (q_fx.rf.up (by decide)) (by intro c i; simp only [x_G]; omega)
theorem i_g0x {m : qm} : q_fx x_G m (q_up m 188 17 0) := q_fx.rf.up (by decide)
theorem i_g0r {m : qm} : i_rr m (q_up m 188 17 0) none := ⟨q_up_i (by decide), fun i => q_up_c (by decide)⟩
theorem a_most_g0 {n : Nat} {m : qm} (j : Int) : ∀ v : Nat, a_most n (q_up m 188 17 0) j v = a_most n m j v
  | 0 => by simp only [a_most]; rw [q_up_c (by decide)]
  | v + 1 => by simp only [a_most]; rw [a_most_g0 j v, i_g0f]
theorem rf_flood {k n : Nat} {b : Int} {m : qm} (h : i_B k n m) (j v : Int) : q_Ev yX12_flood cX12_flood 6 (some .int) 3 0 0 [(2, 188), (0, j), (0, v)] (q_sh0, q_rb b, m) (qK (q_rb b) (fun r m1 => r = a_flood n m j v ∧ q_fx x_G m m1 ∧ i_rr m m1 (o_flood n m j v))) := by
  have t1 := h.1.1
  have t2 := h.1.2.2.1
  obtain ⟨t, p, a⟩ := i_g0 h
  refine q_enter (by decide +kernel) (by simp) (Nat.le_of_ble_eq_true rfl) ?_
  refine bkX12_flood_0 (q_in_of (by omega) (by omega)) (fun _ _ => sp_begin n t.2.2.1 t1) (fun _ _ _ _ _ _ => by omega) (fun hj hv r3 m3 h3 _ => ?_) (fun _ hv => ?_) (fun hj => ?_)
  · obtain ⟨c0, ok⟩ := i_mf0 t p a h3
    refine q_for' (A := fun i (x : Int × Int) m' => q_At yX12_flood cX12_flood 6 (some .int) 3 0 0 _ 39 [(2, 188), (0, j), (0, v), (0, x.1), (0, x.2), (0, i)] [] (q_sh0, q_rb b, m')) (fun i x m' => ∃ (w : Nat) (y : Int), i = w + 1 ∧ (w : Int) ≤ v ∧ i_mf n (q_up m 188 17 0) w y m' ∧ x = a_most n m j w) v ?_ ?_ 1 (m3 207 j, 0) m3 ⟨0, 0, by omega, by omega, c0, ?_⟩
    · rintro i x m' hi ⟨w, y, rfl, hw, hc, rfl⟩
      have hwv : v.toNat = w := by omega
      refine bkX12_flood_39 (fun _ => by omega) (fun _ => ?_) (P3 := fun _ _ => True) (fun z => absurd z (by omega)) (fun z => absurd z (by omega)) (fun z => absurd z (by omega)) (fun z => absurd z (by omega)) (fun z => absurd z (by omega)) (fun z => absurd z (by omega))
      refine ⟨?_, ((((i_g0x.tr (i_mf_fx hc))).up (by decide)).up (by simp [x_G])).up (by decide), ?_⟩
      · unfold a_flood; rw [if_pos ⟨by omega, hv⟩, hwv]
      · unfold o_flood; rw [if_pos ⟨by omega, hv⟩, hwv]
        refine ⟨by rw [q_up_s]; rfl, fun i hi => ?_⟩
        have : i = 0 := by simp at hi; omega
        subst this
        simp [q_up]
    · rintro i x m' hi ⟨w, y, rfl, hw, hc, rfl⟩ ih
      refine bkX12_flood_39 (fun z => absurd z (by omega)) (fun z => absurd z (by omega)) (fun _ => sp_goOn' n hc.1) (fun _ _ _ _ _ => by omega) (fun _ _ _ _ _ _ => q_in_of (by omega) (by omega)) (fun _ r4 m4 h4 _ z => ?_) (fun _ _ _ _ _ _ => q_in_of (by omega) (by omega)) (fun _ r4 m4 h4 _ z => ?_)
      · have c1 := i_mf1 ok hc h4
        have e : m4 207 j = (i_f n (q_up m 188 17 0) (w + 1)).1 j := (c1.2.2.2.2.1.1 j (by omega) (by omega)).1
        rw [i_g0f] at e
        refine ih (m4 207 j, (w : Int) + 1) m4 ⟨w + 1, _, by omega, by omega, c1, ?_⟩
        simp only [a_most]; rw [if_pos (by omega), e]
      · have c1 := i_mf1 ok hc h4
        have e : m4 207 j = (i_f n (q_up m 188 17 0) (w + 1)).1 j := (c1.2.2.2.2.1.1 j (by omega) (by omega)).1
        rw [i_g0f] at e
        refine ih (a_most n m j w) m4 ⟨w + 1, _, by omega, by omega, c1, ?_⟩
        simp only [a_most]; rw [if_neg (by omega)]
    · have e : m3 207 j = (i_f n (q_up m 188 17 0) 0).1 j := (c0.2.2.2.2.1.1 j (by omega) (by omega)).1
      rw [i_g0f] at e
      simp only [a_most]; rw [e]; rfl
  · refine ⟨?_, i_g0x, ?_⟩
    · unfold a_flood; rw [if_neg (fun z => hv z.2)]
    · unfold o_flood; rw [if_neg (fun z => hv z.2)]; exact i_g0r
  · refine ⟨?_, i_g0x, ?_⟩
    · unfold a_flood; rw [if_neg (fun z => hj (by omega))]
    · unfold o_flood; rw [if_neg (fun z => hj (by omega))]; exact i_g0r
theorem op_flood {LW : qm → Prop} (hL : i_Lf LW) {k : Nat} {b : Int} {m : qm} (I : i_I LW k m) (j v : Int) :
    q_Ev yX11_flood cX11_flood 6 (some .int) 3 0 0 [(2, 0), (0, j), (0, v)] (q_sh0, q_rb b, m) (qK (q_rb b) (fun r m1 => q_Ev yX12_flood cX12_flood 6 (some .int) 3 0 0 [(2, 188), (0, j), (0, v)] (q_sh0, q_rb b, m1) (i_O LW (k + 1) r))) := by
  have I2 := I
  obtain ⟨n, t, p, a, x, r, s, u, kk, l⟩ := I2
  refine i_join hL I (o := o_flood n m j v) (fun l z => ?_) (cl_flood ⟨t, p, a⟩ j v) (fun m1 f1 => (rf_flood (i_B.fr (show i_B k n m from ⟨t, p, a⟩) f1 x_F_B) j v).post (fun r m2 z => ⟨z.1.trans ?_, z.2.1, ?_⟩)) x_F_A x_G_A x_F_c x_G_c
  · unfold o_flood at z
    split at z
    · cases z; simp
    · cases z
  · unfold a_flood; rw [a_most_fr f1]
  · have z2 := z.2.2
    unfold o_flood at z2 ⊢
    rw [a_most_fr f1] at z2
    exact z2
/-! dry: how many bells till a jar is empty -/
def a_dryN (n : Nat) (m : qm) (j : Int) : Nat → Nat → Int
  | 0, _ => -2
  | f + 1, v => if (i_f n m v).1 j = 0 then v else a_dryN n m j f (v + 1)
def a_dry (n : Nat) (m : qm) (j : Int) : Int := if 0 ≤ j ∧ j < n then a_dryN n m j 201 0 else -1
theorem a_dryN_fr {n : Nat} {m m' : qm} {X : Int → Int → Prop} (hf : q_fx X m m') (hd : ∀ c i, c = 189 ∨ c = 190 ∨ c = 191 ∨ c = 194 ∨ c = 195 → ¬ X c i) (j : Int) : ∀ f v : Nat, a_dryN n m' j f v = a_dryN n m j f v
  | 0, _ => rfl
  | f + 1, v => by simp only [a_dryN]; rw [i_f_fr hf hd, a_dryN_fr hf hd j f (v + 1)]
theorem cl_dry {k n : Nat} {b : Int} {m : qm} (h : i_B k n m) (j : Int) : q_Ev yX11_dry cX11_dry 3 (some .int) 3 0 0 [(2, 0), (0, j)] (q_sh0, q_rb b, m) (qK (q_rb b) (fun r m1 => r = a_dry n m j ∧ q_fx x_F m m1 ∧ i_rc m m1 none)) := by
  obtain ⟨t, p, a⟩ := h
  have t1 := t.1
  have t2 := t.2.1
  refine q_enter (by decide +kernel) (by simp) (Nat.le_of_ble_eq_true rfl) ?_
  refine bkX11_dry_0 (fun _ => sp_start q_st5) (fun hj r3 m3 h3 _ => ?_) (fun hj => ⟨?_, q_fx.rf, rfl, fun _ => rfl⟩)
  · obtain ⟨c0, ok⟩ := i_cf0 t p a h3
    refine q_for' (A := fun i (_ : Unit) m' => q_At yX11_dry cX11_dry 3 (some .int) 3 0 0 _ 23 [(2, 0), (0, j), (0, i)] [] (q_sh0, q_rb b, m')) (fun i _ m' => ∃ w f : Nat, i = w ∧ w + f = 201 ∧ i_cf n m w m' ∧ a_dry n m j = a_dryN n m j f w) 200 ?_ ?_ 0 () m3 ⟨0, 201, rfl, rfl, c0, ?_⟩
    · rintro i x m' hi ⟨w, f, rfl, hw, hc, he⟩
      have hf0 : f = 0 := by omega
      subst hf0
      refine bkX11_dry_23 (fun _ => ⟨he.symm, i_cf_fx hc, hc.2.2.2.2.2 0 (by decide) 16, fun i => hc.2.2.2.2.2 169 (by decide) i⟩) (fun z => absurd z (by omega)) (P3 := fun _ _ => True) (fun z => absurd z (by omega)) (fun z => absurd z (by omega)) (fun z => absurd z (by omega)) (fun z => absurd z (by omega))
    · rintro i x m' hi ⟨w, f, rfl, hw, hc, he⟩ ih
      have lo := i_cf_lost ok hc
      have e : m' 27 j = (i_f n m w).1 j := (hc.2.2.2.2.1.1 j (by omega) (by omega)).1
      obtain ⟨f, rfl⟩ : ∃ g, f = g + 1 := ⟨f - 1, by omega⟩
      simp only [a_dryN] at he
      refine bkX11_dry_23 (fun z => absurd z (by omega)) (fun _ => by omega) (fun _ _ => sp_strike' n hc.1 (by omega)) (fun _ _ _ _ _ _ => q_in_of (by omega) (by omega)) (fun _ z r4 m4 h4 _ => ?_) (fun _ z => ?_)
      · rw [if_neg (by omega)] at he
        exact ih () m4 ⟨w + 1, f, by omega, by omega, i_cf1 ok hc h4, he⟩
      · rw [if_pos (by omega)] at he
        exact ⟨he.symm, i_cf_fx hc, hc.2.2.2.2.2 0 (by decide) 16, fun i => hc.2.2.2.2.2 169 (by decide) i⟩
    · unfold a_dry; rw [if_pos (by omega)]
  · unfold a_dry; rw [if_neg (fun z => hj (by rw [t2]; exact z))]
theorem i_mf_r {n : Nat} {m m3 : qm} {v : Nat} {x : Int} (h : i_mf n (q_up m 188 17 0) v x m3) : i_rr m m3 none := ⟨(h.2.2.2.2.2 188 16 (by decide)).trans (q_up_i (by decide)), fun i => (h.2.2.2.2.2 199 i (by omega)).trans (q_up_c (by decide))⟩
theorem rf_dry {k n : Nat} {b : Int} {m : qm} (h : i_B k n m) (j : Int) : q_Ev yX12_dry cX12_dry 3 (some .int) 3 0 0 [(2, 188), (0, j)] (q_sh0, q_rb b, m) (qK (q_rb b) (fun r m1 => r = a_dry n m j ∧ q_fx x_G m m1 ∧ i_rr m m1 none)) := by
  have t1 := h.1.1
  have t2 := h.1.2.2.1
  obtain ⟨t, p, a⟩ := i_g0 h
  refine q_enter (by decide +kernel) (by simp) (Nat.le_of_ble_eq_true rfl) ?_
  refine bkX12_dry_0 (q_in_of (by omega) (by omega)) (fun _ => sp_begin n t.2.2.1 t1) (fun hj r3 m3 h3 _ => ?_) (fun hj => ⟨?_, i_g0x, i_g0r⟩)
  · obtain ⟨c0, ok⟩ := i_mf0 t p a h3
    refine q_for' (A := fun i (_ : Unit) m' => q_At yX12_dry cX12_dry 3 (some .int) 3 0 0 _ 21 [(2, 188), (0, j), (0, i)] [] (q_sh0, q_rb b, m')) (fun i _ m' => ∃ (w f : Nat) (y : Int), i = w ∧ w + f = 201 ∧ i_mf n (q_up m 188 17 0) w y m' ∧ a_dry n m j = a_dryN n m j f w) 200 ?_ ?_ 0 () m3 ⟨0, 201, 0, rfl, rfl, c0, ?_⟩
    · rintro i x m' hi ⟨w, f, y, rfl, hw, hc, he⟩
      have hf0 : f = 0 := by omega
      subst hf0
      refine bkX12_dry_21 (fun _ => ⟨he.symm, i_g0x.tr (i_mf_fx hc), i_mf_r hc⟩) (fun z => absurd z (by omega)) (P3 := fun _ _ => True) (fun z => absurd z (by omega)) (fun z => absurd z (by omega)) (fun z => absurd z (by omega)) (fun z => absurd z (by omega))
    · rintro i x m' hi ⟨w, f, y, rfl, hw, hc, he⟩ ih
      have e : m' 207 j = (i_f n (q_up m 188 17 0) w).1 j := (hc.2.2.2.2.1.1 j (by omega) (by omega)).1
      rw [i_g0f] at e
      obtain ⟨f, rfl⟩ : ∃ g, f = g + 1 := ⟨f - 1, by omega⟩
      simp only [a_dryN] at he
      refine bkX12_dry_21 (fun z => absurd z (by omega)) (fun _ => by omega) (fun _ _ => sp_goOn' n hc.1) (fun _ _ _ _ _ _ => q_in_of (by omega) (by omega)) (fun _ z r4 m4 h4 _ => ?_) (fun _ z => ?_)
      · rw [if_neg (by omega)] at he
        exact ih () m4 ⟨w + 1, f, _, by omega, by omega, i_mf1 ok hc h4, he⟩
      · rw [if_pos (by omega)] at he
        exact ⟨he.symm, i_g0x.tr (i_mf_fx hc), i_mf_r hc⟩
    · unfold a_dry; rw [if_pos (by omega)]
  · unfold a_dry; rw [if_neg (fun z => hj (by omega))]
theorem op_dry {LW : qm → Prop} (hL : i_Lf LW) {k : Nat} {b : Int} {m : qm} (I : i_I LW k m) (j : Int) :
    q_Ev yX11_dry cX11_dry 3 (some .int) 3 0 0 [(2, 0), (0, j)] (q_sh0, q_rb b, m) (qK (q_rb b) (fun r m1 => q_Ev yX12_dry cX12_dry 3 (some .int) 3 0 0 [(2, 188), (0, j)] (q_sh0, q_rb b, m1) (i_O LW (k + 1) r))) := by
  have I2 := I
  obtain ⟨n, t, p, a, x, r, s, u, kk, l⟩ := I2
  refine i_join hL I (fun l z => by cases z) (cl_dry ⟨t, p, a⟩ j) (fun m1 f1 => (rf_dry (i_B.fr (show i_B k n m from ⟨t, p, a⟩) f1 x_F_B) j).post (fun r m2 z => ⟨z.1.trans ?_, z.2⟩)) x_F_A x_G_A x_F_c x_G_c
  unfold a_dry; rw [a_dryN_fr f1 (by intro c i; simp only [x_F]; omega)]
