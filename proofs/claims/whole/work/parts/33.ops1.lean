/-! ===== joining the class's answer and the reference's ===== -/
def i_rc (m m1 : qm) (o : Option (List Int)) : Prop := match o with
  | none => m1 0 16 = m 0 16 ∧ ∀ i, m1 169 i = m 169 i
  | some l => m1 0 16 = (l.length : Int) ∧ ∀ i : Nat, i < l.length → m1 169 i = l.getD i 0
def i_rr (m m1 : qm) (o : Option (List Int)) : Prop := match o with
  | none => m1 188 16 = m 188 16 ∧ ∀ i, m1 199 i = m 199 i
  | some l => m1 188 16 = (l.length : Int) ∧ ∀ i : Nat, i < l.length → m1 199 i = l.getD i 0
theorem i_row {m m1 m2 : qm} {o : Option (List Int)} (r : i_R m) (hl : ∀ l, o = some l → l.length ≤ 10) (h1 : i_rc m m1 o) (h2 : i_rr m1 m2 o) (e1 : m2 0 16 = m1 0 16 ∧ ∀ i, m2 169 i = m1 169 i) (e2 : m1 188 16 = m 188 16 ∧ ∀ i, m1 199 i = m 199 i) : i_R m2 := by
  obtain ⟨r1, r2, r3, r4⟩ := r
  cases o with
  | none =>
    obtain ⟨a1, a2⟩ := h1
    obtain ⟨b1, b2⟩ := h2
    refine ⟨by omega, by omega, by omega, fun i i0 i1 => ?_⟩
    rw [e1.2, a2, b2, e2.2]; exact r4 i i0 (by omega)
  | some l =>
    obtain ⟨a1, a2⟩ := h1
    obtain ⟨b1, b2⟩ := h2
    have := hl l rfl
    refine ⟨by omega, by omega, by omega, fun i i0 i1 => ?_⟩
    have hi : i = (i.toNat : Int) := by omega
    rw [e1.2, hi, a2 _ (by omega), b2 _ (by omega)]
theorem q_Ev.post {y : MethodName} {cc : ByteArray} {nL : Nat} {rt : Option FieldType} {d kc ks : Nat} {as : List qv} {σ : qh} {rf : qm} {P P' : Int → qm → Prop} (h : q_Ev y cc nL rt d kc ks as σ (qK rf P)) (hk : ∀ r m, P r m → P' r m) : q_Ev y cc nL rt d kc ks as σ (qK rf P') := h.mono (fun r σ ⟨m, e, p⟩ => ⟨m, e, hk r m p⟩)
/-- ops that leave all but the told row -/
theorem i_join {LW : qm → Prop} (hL : i_Lf LW) {k : Nat} {b : Int} {m : qm} (I : i_I LW k m) {y1 y2 : MethodName} {c1 c2 : ByteArray} {n1 n2 d1 d2 : Nat} {rt : Option FieldType} {as1 as2 : List qv} {R : Int} {o : Option (List Int)} {Xc Xr : Int → Int → Prop}
    (hl : ∀ l, o = some l → l.length ≤ 10)
    (h1 : q_Ev y1 c1 n1 rt d1 0 0 as1 (q_sh0, q_rb b, m) (qK (q_rb b) (fun r m1 => r = R ∧ q_fx Xc m m1 ∧ i_rc m m1 o)))
    (h2 : ∀ m1, q_fx Xc m m1 → q_Ev y2 c2 n2 rt d2 0 0 as2 (q_sh0, q_rb b, m1) (qK (q_rb b) (fun r m2 => r = R ∧ q_fx Xr m1 m2 ∧ i_rr m1 m2 o)))
    (hc : ∀ c i, x_A c i → ¬ Xc c i) (hr : ∀ c i, x_A c i → ¬ Xr c i) (hc2 : ∀ c i, 188 ≤ c → ¬ Xc c i) (hr2 : ∀ c i, c < 188 → ¬ Xr c i) :
    q_Ev y1 c1 n1 rt d1 0 0 as1 (q_sh0, q_rb b, m) (qK (q_rb b) (fun r m1 => q_Ev y2 c2 n2 rt d2 0 0 as2 (q_sh0, q_rb b, m1) (i_O LW (k + 1) r))) := by
  refine h1.post ?_
  rintro r m1 ⟨rfl, f1, g1⟩
  refine (h2 m1 f1).mono ?_
  rintro r' σ ⟨m2, rfl, rfl, f2, g2⟩
  refine ⟨rfl, b, m2, rfl, ?_⟩
  have f : q_fx (fun c i => Xc c i ∨ Xr c i) m m2 := (f1.mono (fun c i z => Or.inl z)).tr (f2.mono (fun c i z => Or.inr z))
  have I2 := I
  obtain ⟨n, t, p, a, x, rr, s, u, kk, l⟩ := I2
  refine I.keepR hL f (fun c i z q => q.elim (hc c i z) (hr c i z)) (i_row rr hl g1 g2 ⟨f2 0 16 (hr2 0 16 (by decide)), fun i => f2 169 i (hr2 169 i (by decide))⟩ ⟨f1 188 16 (hc2 188 16 (by decide)), fun i => f1 199 i (hc2 199 i (by decide))⟩)
/-- the town, the pipes and the water are as they must be -/
def i_B (k : Nat) (n : Nat) (m : qm) : Prop := i_T n m ∧ i_P n m ∧ i_N (1500 * k) n m
theorem i_B.fr {k n : Nat} {m m' : qm} {X : Int → Int → Prop} (h : i_B k n m) (hf : q_fx X m m') (hd : ∀ c i, x_T c i ∨ x_P c i ∨ x_N c i → ¬ X c i) : i_B k n m' := ⟨h.1.fr hf (fun c i z => hd c i (Or.inl z)), h.2.1.fr hf (fun c i z => hd c i (Or.inr (Or.inl z))), h.2.2.fr hf (fun c i z => hd c i (Or.inr (Or.inr z)))⟩
/-- what the class's flow writes, and the reference's -/
abbrev x_F (c i : Int) : Prop := (26 ≤ c ∧ c ≤ 32) ∨ (c = 0 ∧ i = 16) ∨ c = 169
abbrev x_G (c i : Int) : Prop := c = 202 ∨ (207 ≤ c ∧ c ≤ 210) ∨ (c = 188 ∧ (i = 36 ∨ i = 17 ∨ i = 16)) ∨ c = 199
theorem x_F_A : ∀ c i, x_A c i → ¬ x_F c i := by intro c i; simp only [x_A, x_T, x_P, x_N, x_X, x_S, x_U, x_K, x_L, x_F]; omega
theorem x_G_A : ∀ c i, x_A c i → ¬ x_G c i := by intro c i; simp only [x_A, x_T, x_P, x_N, x_X, x_S, x_U, x_K, x_L, x_G]; omega
theorem x_F_c : ∀ c i, 188 ≤ c → ¬ x_F c i := by intro c i; simp only [x_F]; omega
theorem x_G_c : ∀ c i, c < 188 → ¬ x_G c i := by intro c i; simp only [x_G]; omega
theorem x_F_B : ∀ c i, x_T c i ∨ x_P c i ∨ x_N c i → ¬ x_F c i := by intro c i; simp only [x_T, x_P, x_N, x_F]; omega
theorem x_G_B : ∀ c i, x_T c i ∨ x_P c i ∨ x_N c i → ¬ x_G c i := by intro c i; simp only [x_T, x_P, x_N, x_G]; omega
/-- levels, wax and what is lost, v bells from now -/
def i_f (n : Nat) (m : qm) (v : Nat) : f_S := f_it n (m 194) (m 189) (m 191) v (m 190, m 195, 0)
theorem i_f_fr {n v : Nat} {m m' : qm} {X : Int → Int → Prop} (hf : q_fx X m m') (hd : ∀ c i, c = 189 ∨ c = 190 ∨ c = 191 ∨ c = 194 ∨ c = 195 → ¬ X c i) : i_f n m' v = i_f n m v := by
  have e : ∀ c, c = 189 ∨ c = 190 ∨ c = 191 ∨ c = 194 ∨ c = 195 → m' c = m c := fun c z => funext fun i => hf c i (hd c i z)
  unfold i_f
  rw [e 194 (by decide), e 189 (by decide), e 191 (by decide), e 190 (by decide), e 195 (by decide)]
theorem q_st5 : q_st 5 := by unfold q_st; decide
/-! later -/
def a_later (n : Nat) (m : qm) (j v : Int) : Int := if (0 ≤ j ∧ j < n) ∧ (0 ≤ v ∧ v ≤ 200) then (i_f n m v.toNat).1 j else -1
theorem cl_later {k n : Nat} {b : Int} {m : qm} (h : i_B k n m) (j v : Int) : q_Ev yX11_later cX11_later 3 (some .int) 4 0 0 [(2, 0), (0, j), (0, v)] (q_sh0, q_rb b, m) (qK (q_rb b) (fun r m1 => r = a_later n m j v ∧ q_fx x_F m m1 ∧ i_rc m m1 none)) := by
  obtain ⟨t, p, a⟩ := h
  have t2 := t.2.1
  refine q_enter (by decide +kernel) (by simp) (Nat.le_of_ble_eq_true rfl) ?_
  refine bkX11_later_0 (fun _ _ => sp_start q_st5) (P4 := fun _ m3 _ m4 => f_eq n (f_C m4) (f_it n (m3 29) (m3 2) (m3 28) v.toNat (f_C m3)) ∧ f_wf n m4 ∧ q_fr [26, 27, 30, 31] m3 m4) (fun _ hv r3 m3 h3 _ => ?_) (fun hj _ _ _ _ _ _ _ _ _ => by have := t.1; omega) (fun hj hv r3 m3 h3 _ r4 m4 h4 _ => ?_) (fun _ hv => ⟨?_, q_fx.rf, rfl, fun _ => rfl⟩) (fun hj => ⟨?_, q_fx.rf, rfl, fun _ => rfl⟩)
  · obtain ⟨g1, g2, g3, g4⟩ := h3
    obtain ⟨w1, -⟩ := i_flow t p a g1 g2 g3 g4
    have := sp_strikeAll (b := b) n v.toNat w1 (by omega)
    rwa [show ((v.toNat : Nat) : Int) = v by omega] at this
  · obtain ⟨g1, g2, g3, g4⟩ := h3
    obtain ⟨w1, w2, w3, w4, w5, w6⟩ := i_flow t p a g1 g2 g3 g4
    obtain ⟨q1, -, q3⟩ := h4
    refine ⟨?_, ?_, ?_, fun i => ?_⟩
    · unfold a_later
      rw [if_pos ⟨by omega, hv⟩]
      have e := q1.tr (f_it_en w1.2.1 w2 w3 w4 w5 v.toNat)
      exact (e.1 j (by omega) (by omega)).1
    · refine (g4.fx ?_).tr (q3.fx ?_)
      · intro c hc i; simp at hc; simp only [x_F]; omega
      · intro c hc i; simp at hc; simp only [x_F]; omega
    · rw [q3 0 (by decide) 16, g4 0 (by decide) 16]
    · rw [q3 169 (by decide) i, g4 169 (by decide) i]
  · unfold a_later; rw [if_neg (fun z => hv z.2)]
  · unfold a_later; rw [if_neg (fun z => hj (by rw [t2]; exact z.1))]
theorem rf_later {k n : Nat} {b : Int} {m : qm} (h : i_B k n m) (j v : Int) : q_Ev yX12_later cX12_later 3 (some .int) 4 0 0 [(2, 188), (0, j), (0, v)] (q_sh0, q_rb b, m) (qK (q_rb b) (fun r m1 => r = a_later n m j v ∧ q_fx x_G m m1 ∧ i_rr m m1 none)) := by
  have t1 := h.1.1
  have t2 := h.1.2.2.1
  refine q_enter (by decide +kernel) (by simp) (Nat.le_of_ble_eq_true rfl) ?_
  have f0 : q_fx x_G m (q_up m 188 17 0) := q_fx.rf.up (by decide)
  have r0 : i_rr m (q_up m 188 17 0) none := ⟨q_up_i (by decide), fun i => q_up_c (by decide)⟩
  have h' := h.fr f0 x_G_B
  refine bkX12_later_0 (q_in_of (by omega) (by omega)) (P3 := fun r m1 => r = a_later n m j v ∧ q_fx x_G m m1 ∧ i_rr m m1 none) (fun hj hv => ?_) (fun _ _ _ _ z _ => z) (fun _ hv => ⟨?_, f0, r0⟩) (fun hj => ⟨?_, f0, r0⟩)
  · obtain ⟨t, p, a⟩ := h'
    refine q_enter (by decide +kernel) (by simp) (Nat.le_of_ble_eq_true rfl) ?_
    refine bkX12_levelIn_0 (sp_begin n t.2.2.1 t1) (P2 := fun _ m1 r2 m2 => f_eq n (f_M m2 r2) (f_it n (m1 194) (m1 189) (m1 209) v.toNat (f_M m1 0)) ∧ f_mok n m2 ∧ q_fx f_X m1 m2) (fun r1 m1 h1 _ => ?_) (fun _ _ _ _ _ _ _ _ => by omega) (fun r1 m1 h1 _ r2 m2 h2 _ => ?_)
    · obtain ⟨w1, -⟩ := i_mflow t p a h1.1 h1.2
      have := sp_goOnN (b := b) n v.toNat w1 (by omega)
      rwa [show ((v.toNat : Nat) : Int) = v by omega] at this
    · obtain ⟨w1, w2, w3, w4, w5, w6⟩ := i_mflow t p a h1.1 h1.2
      obtain ⟨q1, -, q3⟩ := h2
      have ff : q_fx x_G m m2 := (f0.tr (h1.2.fx (by intro c hc i; simp at hc; simp only [x_G]; omega))).tr (q3.mono (by intro c i; simp only [x_G, f_X]; omega))
      refine ⟨?_, ff, ?_, fun i => ?_⟩
      · unfold a_later
        rw [if_pos ⟨by omega, hv⟩, ← i_f_fr f0 (by intro c i; simp only [x_G]; omega)]
        rw [w2, w3] at q1
        have e := q1.tr (f_it_en (f_OK.en w6 (fun _ _ _ => rfl) (fun _ _ _ => rfl) (fun j a b => (w4 j a b).symm) (w5 0).sy) (fun _ _ _ => rfl) (fun _ _ _ => rfl) w4 (w5 0) v.toNat)
        exact (e.1 j (by omega) (by omega)).1
      · rw [q3 188 16 (by decide), h1.2 188 (by decide) 16]; exact r0.1
      · rw [q3 199 i (by simp [f_X]), h1.2 199 (by decide) i]; exact r0.2 i
  · unfold a_later; rw [if_neg (fun z => hv z.2)]
  · unfold a_later; rw [if_neg (fun z => hj (by omega))]
theorem a_later_fr {n : Nat} {m m' : qm} (hf : q_fx x_F m m') (j v : Int) : a_later n m' j v = a_later n m j v := by
  unfold a_later
  rw [i_f_fr hf (by intro c i; simp only [x_F]; omega)]
theorem op_later {LW : qm → Prop} (hL : i_Lf LW) {k : Nat} {b : Int} {m : qm} (I : i_I LW k m) (j v : Int) :
    q_Ev yX11_later cX11_later 3 (some .int) 4 0 0 [(2, 0), (0, j), (0, v)] (q_sh0, q_rb b, m) (qK (q_rb b) (fun r m1 => q_Ev yX12_later cX12_later 3 (some .int) 4 0 0 [(2, 188), (0, j), (0, v)] (q_sh0, q_rb b, m1) (i_O LW (k + 1) r))) := by
  have I2 := I
  obtain ⟨n, t, p, a, x, r, s, u, kk, l⟩ := I2
  exact i_join hL I (fun l z => by cases z) (cl_later ⟨t, p, a⟩ j v) (fun m1 f1 => (rf_later (i_B.fr (show i_B k n m from ⟨t, p, a⟩) f1 x_F_B) j v).post (fun r m2 z => ⟨z.1.trans (a_later_fr f1 j v), z.2⟩)) x_F_A x_G_A x_F_c x_G_c
/-! flood: the most that a jar comes to hold, and when first -/
def a_most (n : Nat) (m : qm) (j : Int) : Nat → Int × Int
  | 0 => (m 190 j, 0)
  | v + 1 => if (a_most n m j v).1 < (i_f n m (v + 1)).1 j then ((i_f n m (v + 1)).1 j, v + 1) else a_most n m j v
def a_flood (n : Nat) (m : qm) (j v : Int) : Int := if (0 ≤ j ∧ j < n) ∧ (0 ≤ v ∧ v ≤ 200) then (a_most n m j v.toNat).1 else -1
def o_flood (n : Nat) (m : qm) (j v : Int) : Option (List Int) := if (0 ≤ j ∧ j < n) ∧ (0 ≤ v ∧ v ≤ 200) then some [(a_most n m j v.toNat).2] else none
theorem a_most_fr {n : Nat} {m m' : qm} (hf : q_fx x_F m m') (j : Int) : ∀ v : Nat, a_most n m' j v = a_most n m j v
  | 0 => by simp only [a_most]; rw [hf 190 j (by simp [x_F])]
  | v + 1 => by simp only [a_most]; rw [a_most_fr hf j v, i_f_fr hf (by intro c i; simp only [x_F]; omega)]
/-- one bell more of the class's flow, told by i_f -/
theorem i_fstep {n : Nat} {m m3 m4 : qm} {v : Nat} (ok : f_OK n (m 194) (m 189) (m 191) (m 190, m 195, 0)) (w2 : f_en n (m3 29) (m 194)) (w3 : f_en n (m3 2) (m 189)) (w4 : f_en n (m3 28) (m 191)) (he : f_eq n (f_C m3) (i_f n m v)) (h : f_eq n (f_C m4) (f_b n (m3 29) (m3 2) (m3 28) (f_C m3))) : f_eq n (f_C m4) (i_f n m (v + 1)) :=
  h.tr (f_b_en ((ok.it v).en (fun j a b => (w2 j a b).symm) (fun j a b => (w3 j a b).symm) (fun j a b => (w4 j a b).symm) he.sy) w2 w3 w4 he)
/-- the class's flow v bells on -/
def i_cf (n : Nat) (m : qm) (v : Nat) (m3 : qm) : Prop := f_wf n m3 ∧ f_en n (m3 29) (m 194) ∧ f_en n (m3 2) (m 189) ∧ f_en n (m3 28) (m 191) ∧ f_eq n (f_C m3) (i_f n m v) ∧ q_fr [26, 27, 28, 29, 30, 31, 32] m m3
theorem i_cf0 {B : Int} {n : Nat} {m m1 : qm} (t : i_T n m) (p : i_P n m) (a : i_N B n m) (h : (∀ i, 0 ≤ i → i < 9 → m1 27 i = m (5 + 3) i ∧ m1 28 i = m (5 + 5) i ∧ m1 29 i = m (5 + 6) i ∧ m1 30 i = m (5 + 4) i ∧ m1 32 i = -1) ∧ m1 26 7 = 0 ∧ m1 26 8 = 0 ∧ q_fr [26, 27, 28, 29, 30, 32] m m1) : i_cf n m 0 m1 ∧ f_OK n (m 194) (m 189) (m 191) (m 190, m 195, 0) := by
  obtain ⟨g1, g2, g3, g4⟩ := h
  obtain ⟨w1, w2, w3, w4, w5, w6⟩ := i_flow t p a g1 g2 g3 g4
  exact ⟨⟨w1, w2, w3, w4, w5, g4.mono (by simp)⟩, w6⟩
theorem i_cf1 {n : Nat} {m m3 m4 : qm} {v : Nat} (ok : f_OK n (m 194) (m 189) (m 191) (m 190, m 195, 0)) (h : i_cf n m v m3) (g : f_eq n (f_C m4) (f_b n (m3 29) (m3 2) (m3 28) (f_C m3)) ∧ f_wf n m4 ∧ q_fr [26, 27, 30, 31] m3 m4) : i_cf n m (v + 1) m4 := by
  obtain ⟨h1, h2, h3, h4, h5, h6⟩ := h
  obtain ⟨g1, g2, g3⟩ := g
  have e1 : m4 29 = m3 29 := funext (g3 29 (by decide))
  have e2 : m4 2 = m3 2 := funext (g3 2 (by decide))
  have e3 : m4 28 = m3 28 := funext (g3 28 (by decide))
  exact ⟨g2, by rw [e1]; exact h2, by rw [e2]; exact h3, by rw [e3]; exact h4, i_fstep ok h2 h3 h4 h5 g1, h6.tr (g3.mono (by simp))⟩
theorem i_cf_lost {n : Nat} {m m3 : qm} {v : Nat} (ok : f_OK n (m 194) (m 189) (m 191) (m 190, m 195, 0)) (h : i_cf n m v m3) : 0 ≤ m3 26 7 ∧ m3 26 7 ≤ 81 * v := by
  have := f_it_lost ok v
  have e : m3 26 7 = (i_f n m v).2.2 := h.2.2.2.2.1.2
  unfold i_f at e
  simp only at this
  omega
theorem i_cf_fx {n : Nat} {m m3 : qm} {v : Nat} (h : i_cf n m v m3) : q_fx x_F m m3 := h.2.2.2.2.2.fx (by intro c hc i; simp at hc; simp only [x_F]; omega)
/-- the reference's flow v bells on, with x lost -/
def i_mf (n : Nat) (m : qm) (v : Nat) (x : Int) (m3 : qm) : Prop := f_mok n m3 ∧ m3 194 = m 194 ∧ m3 189 = m 189 ∧ f_en n (m3 209) (m 191) ∧ f_eq n (f_M m3 x) (i_f n m v) ∧ q_fx (fun c i => c = 202 ∨ (207 ≤ c ∧ c ≤ 209) ∨ (c = 188 ∧ i = 36)) m m3
theorem i_mf0 {B : Int} {n : Nat} {m m1 : qm} (t : i_T n m) (p : i_P n m) (a : i_N B n m) (h : (∀ i : Int, 0 ≤ i → i < n → m1 207 i = m 190 i ∧ m1 208 i = m 195 i ∧ m1 209 i = m 191 i) ∧ q_fr [207, 208, 209] m m1) : i_mf n m 0 0 m1 ∧ f_OK n (m 194) (m 189) (m 191) (m 190, m 195, 0) := by
  obtain ⟨w1, w2, w3, w4, w5, w6⟩ := i_mflow t p a h.1 h.2
  exact ⟨⟨w1, w2, w3, w4, w5 0, h.2.fx (by intro c hc i; simp at hc; omega)⟩, w6⟩
theorem i_mf1 {n : Nat} {m m3 m4 : qm} {v : Nat} {x r : Int} (ok : f_OK n (m 194) (m 189) (m 191) (m 190, m 195, 0)) (h : i_mf n m v x m3) (g : (∀ x, f_eq n (f_M m4 (x + r)) (f_b n (m3 194) (m3 189) (m3 209) (f_M m3 x))) ∧ 0 ≤ r ∧ r ≤ 81 ∧ f_mok n m4 ∧ q_fx f_X m3 m4) : i_mf n m (v + 1) (x + r) m4 := by
  obtain ⟨h1, h2, h3, h4, h5, h6⟩ := h
  obtain ⟨g1, -, -, g4, g5⟩ := g
  have e1 : m4 194 = m3 194 := funext (fun i => g5 194 i (by simp [f_X]))
  have e2 : m4 189 = m3 189 := funext (fun i => g5 189 i (by simp [f_X]))
  have e3 : m4 209 = m3 209 := funext (fun i => g5 209 i (by simp [f_X]))
  refine ⟨g4, e1.trans h2, e2.trans h3, by rw [e3]; exact h4, ?_, h6.tr (g5.mono (by intro c i; simp only [f_X]; omega))⟩
  have g1 := g1 x
  rw [h2, h3] at g1
  exact g1.tr (f_b_en ((ok.it v).en (fun _ _ _ => rfl) (fun _ _ _ => rfl) (fun j a b => (h4 j a b).symm) h5.sy) (fun _ _ _ => rfl) (fun _ _ _ => rfl) h4 h5)
theorem i_mf_lost {n : Nat} {m m3 : qm} {v : Nat} {x : Int} (ok : f_OK n (m 194) (m 189) (m 191) (m 190, m 195, 0)) (h : i_mf n m v x m3) : 0 ≤ x ∧ x ≤ 81 * v := by
  have := f_it_lost ok v
  have e : x = (i_f n m v).2.2 := h.2.2.2.2.1.2
  unfold i_f at e
  simp only at this
  omega
theorem i_f_in {n : Nat} {m : qm} (ok : f_OK n (m 194) (m 189) (m 191) (m 190, m 195, 0)) (v : Nat) {j : Int} (h0 : 0 ≤ j) (h1 : j < n) : 0 ≤ (i_f n m v).1 j ∧ (i_f n m v).1 j ≤ 60 := by
  have := (ok.it v).2 j h0 h1
  exact ⟨this.2.2.2.2.2.2.2.1, by have a := this.2.2.2.2.2.2.2.2; have b := this.2.2.1; unfold i_f; omega⟩
