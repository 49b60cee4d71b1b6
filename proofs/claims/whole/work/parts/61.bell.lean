/-! ===== one bell with every drop ===== -/
/-- what the jars have when the first k jars' drops have come down -/
def b_f (u c o l : Int → Int) (F : Int → Int → Int) : Nat → Int → Int → Int
  | 0 => fun j x => F j (x + o j)
  | k + 1 => fun j x => if u k ≠ -1 ∧ j = u k ∧ (f_d u c o l k).1 j ≤ x then F k (x - (f_d u c o l k).1 j) else b_f u c o l F k j x
/-- how many of jar k's drops find room below -/
def b_c (u c o l : Int → Int) (k : Nat) : Int := if u k = -1 then 0 else min (o k) (c (u k) - (f_d u c o l k).1 (u k))
/-- what of q has gone to the sand -/
def b_s (u c o l : Int → Int) (F : Int → Int → Int) (q : Int) : Nat → Int
  | 0 => 0
  | k + 1 => b_s u c o l F q k + (g_n (F k) q (o k).toNat - g_n (F k) q (b_c u c o l k).toNat)
theorem sp_letGoC {b s j len out : Int} {f : Int → Int} {mem : qm} (hs : q_st s) (hj : 0 ≤ j ∧ j < 9) (h : w_j mem s j len f) (hl : 0 ≤ len ∧ len ≤ 60) (hh : 0 ≤ mem (s + 5) j ∧ mem (s + 5) j ≤ 9) (ho : out = if 0 < mem (s + 4) j then 0 else min (mem (s + 5) j) len) :
    q_Ev yX0_letGo cX0_letGo 4 none 3 0 0 [(2, 23), (2, s), (0, j)] (q_sh0, q_rb b, mem) (qK (q_rb b) (fun _ m => m 25 j = out ∧ (∀ k, 0 ≤ k → k < out → m 24 (9 * j + k) = f k) ∧ w_j m s j (len - out) (fun k => f (k + out)) ∧ q_fx (fun c i => w_x s j c i ∨ (c = 24 ∧ 9 * j ≤ i ∧ i < 9 * j + 9) ∨ (c = 25 ∧ i = j)) mem m)) := by
  have hg := qst_gap hs
  have ho2 : 0 ≤ out ∧ out ≤ 9 ∧ out ≤ len := by rw [ho]; split <;> omega
  refine q_enter (by decide +kernel) (by simp) (Nat.le_of_ble_eq_true rfl) ?_
  have key : q_At yX0_letGo cX0_letGo 4 none 3 0 0 (qK (q_rb b) (fun _ m => m 25 j = out ∧ (∀ k, 0 ≤ k → k < out → m 24 (9 * j + k) = f k) ∧ w_j m s j (len - out) (fun k => f (k + out)) ∧ q_fx (fun c i => w_x s j c i ∨ (c = 24 ∧ 9 * j ≤ i ∧ i < 9 * j + 9) ∨ (c = 25 ∧ i = j)) mem m)) 36 [(2, 23), (2, s), (0, j), (0, 0)] [] (q_sh0, q_rb b, q_up mem 25 j out) := by
    refine q_for (A := fun i m => q_At yX0_letGo cX0_letGo 4 none 3 0 0 _ 36 [(2, 23), (2, s), (0, j), (0, i)] [] (q_sh0, q_rb b, m)) (fun i m => 0 ≤ i ∧ i ≤ out ∧ m 25 j = out ∧ (∀ k, 0 ≤ k → k < i → m 24 (9 * j + k) = f k) ∧ w_j m s j (len - i) (fun k => f (k + i)) ∧ q_fx (fun c i => w_x s j c i ∨ (c = 24 ∧ 9 * j ≤ i ∧ i < 9 * j + 9) ∨ (c = 25 ∧ i = j)) mem m) out ?_ ?_ 0 _ ⟨by omega, by omega, q_up_s, fun k k0 k1 => absurd k0 (by omega), ?_, q_fx.rf.up (Or.inr (Or.inr ⟨rfl, rfl⟩))⟩
    · rintro i m hi ⟨i0, i1, g1, g2, g3, g4⟩
      have : i = out := by omega
      subst this
      exact bkX0_letGo_36 (P2 := fun _ _ => True) hs hj (fun _ => ⟨g1, g2, g3, g4⟩) (fun z => absurd z (by omega)) (fun z => absurd z (by omega)) (fun z => absurd z (by omega)) (fun z => absurd z (by omega))
    · rintro i m hi ⟨i0, i1, g1, g2, g3, g4⟩ ih
      refine bkX0_letGo_36 hs hj (fun z => absurd z (by omega)) (fun _ => ⟨q_in_of (by omega) (by omega), q_in_of (by omega) (by omega)⟩) (fun _ => sp_takeOldest hs hj g3 (by omega)) (fun _ _ _ _ _ => ⟨by omega, q_in_of (by omega) (by omega)⟩) ?_
      rintro _ r2 m2 ⟨rfl, t2, t3⟩ _
      rw [show j * 9 + i = 9 * j + i by omega, show f (0 + i) = f i by rw [Int.zero_add]]
      refine ih _ ⟨by omega, by omega, ?_, fun k k0 k1 => ?_, ?_, ?_⟩
      · rw [q_up_c (by decide), t3 25 j (by simp only [w_x]; omega)]; exact g1
      · by_cases hk : k = i
        · subst hk; exact q_up_s
        · rw [q_up_i (by omega), t3 24 _ (by simp only [w_x]; omega)]; exact g2 k k0 (by omega)
      · rw [show len - (i + 1) = len - i - 1 by omega]
        refine (t2.fo (X := fun c _ => c = 24) (q_fx.rf.up rfl) (by omega)).en (fun k k0 k1 => ?_)
        show f (k + 1 + i) = f (k + (i + 1))
        congr 1; omega
      · exact (g4.tr (t3.mono (fun c i z => Or.inl z))).up (Or.inr (Or.inl ⟨rfl, by omega, by omega⟩))
    · rw [Int.sub_zero]
      exact (h.fo (X := fun c _ => c = 25) (q_fx.rf.up rfl) (by omega)).en (fun k k0 k1 => by rw [Int.add_zero])
  refine bkX0_letGo_0 hs hj (fun z => ?_) (fun z => ?_)
  · have e : min (mem (s + 5) j) (mem (s + 3) j) = out := by rw [ho, if_neg (by omega), h.1]
    rw [e]; exact key
  · have e : out = 0 := by rw [ho, if_pos z]
    rw [e] at key ⊢; exact key
theorem sp_comeDownC {b s j out lt : Int} {f g : Int → Int} {mem : qm} (hs : q_st s) (hj : 0 ≤ j ∧ j < 9) (h25 : mem 25 j = out) (ho : 0 ≤ out ∧ out ≤ 9) (hg : ∀ k, 0 ≤ k → k < out → mem 24 (9 * j + k) = g k ∧ 0 ≤ g k ∧ g k ≤ 6) (hsand : ∀ q, 0 ≤ q → q < 7 → 0 ≤ mem (s + 8) q ∧ mem (s + 8) q ≤ 500000000) (t : Int) (ht : mem (s + 6) j = t) (h : t = -1 ∨ (0 ≤ t ∧ t < 9 ∧ w_j mem s t lt f ∧ 0 ≤ lt ∧ lt ≤ mem 2 t ∧ mem 2 t ≤ 60)) (cc : Int) (hcc : cc = if t = -1 then 0 else min out (mem 2 t - lt)) :
    q_Ev yX0_comeDown cX0_comeDown 6 none 3 0 0 [(2, 23), (2, s), (0, j)] (q_sh0, q_rb b, mem) (qK (q_rb b) (fun _ m => (t ≠ -1 → w_j m s t (lt + cc) (fun x => if lt ≤ x then g (x - lt) else f x)) ∧ (∀ q, 0 ≤ q → q < 7 → m (s + 8) q = mem (s + 8) q + (g_n g q out.toNat - g_n g q cc.toNat)) ∧ q_fx (fun c i => (t ≠ -1 ∧ w_x s t c i) ∨ c = s + 8) mem m)) := by
  have hgap := qst_gap hs
  refine q_enter (by decide +kernel) (by simp) (Nat.le_of_ble_eq_true rfl) ?_
  refine bkX0_comeDown_0 hs hj ?_
  rw [ht]
  refine q_for (A := fun i m => q_At yX0_comeDown cX0_comeDown 6 none 3 0 0 _ 10 [(2, 23), (2, s), (0, j), (0, t), (0, i), (4, 0)] [] (q_sh0, q_rb b, m)) (fun i m => ∃ v : Nat, i = v ∧ (v : Int) ≤ out ∧ (t ≠ -1 → w_j m s t (lt + min (v : Int) cc) (fun x => if lt ≤ x then g (x - lt) else f x)) ∧ (∀ q, 0 ≤ q → q < 7 → m (s + 8) q = mem (s + 8) q + (g_n g q v - g_n g q (min (v : Int) cc).toNat)) ∧ q_fx (fun c i => (t ≠ -1 ∧ w_x s t c i) ∨ c = s + 8) mem m) out ?_ ?_ 0 mem ⟨0, rfl, by omega, fun z => ?_, fun q q0 q1 => ?_, q_fx.rf⟩
  · rintro i m hi ⟨v, rfl, hv, g1, g2, g3⟩
    have e0 : m 25 j = out := (g3 25 j (by simp only [w_x]; omega)).trans h25
    have hvo : v = out.toNat := by omega
    have hmin : min (v : Int) cc = cc := by rw [hcc]; split <;> omega
    refine bkX0_comeDown_10 (P4 := fun _ _ => True) hs hj (fun _ => ⟨fun z => ?_, fun q q0 q1 => ?_, g3⟩) (fun z => absurd z (by omega)) (fun z => absurd z (by omega)) (fun z => absurd z (by omega)) (fun z => absurd z (by omega)) (fun z => absurd z (by omega)) (fun z => absurd z (by omega)) (fun z => absurd z (by omega)) (fun z => absurd z (by omega)) (fun z => absurd z (by omega))
    · have := g1 z; rwa [hmin] at this
    · have := g2 q q0 q1; rwa [hmin, hvo] at this
  · rintro i m hi ⟨v, rfl, hv, g1, g2, g3⟩ ih
    have e0 : m 25 j = out := (g3 25 j (by simp only [w_x]; omega)).trans h25
    have e1 : ∀ k, m 24 k = mem 24 k := fun k => g3 24 k (by simp only [w_x]; omega)
    have e2 : ∀ k, m 2 k = mem 2 k := fun k => g3 2 k (by simp only [w_x]; omega)
    obtain ⟨p1, p2, p3⟩ := hg v (by omega) (by omega)
    have e3 : m 24 (j * 9 + (v : Int)) = g v := by rw [e1, show j * 9 + (v : Int) = 9 * j + v by omega]; exact p1
    have bs : ∀ q, 0 ≤ q → q < 7 → 0 ≤ m (s + 8) q ∧ m (s + 8) q ≤ 500000009 := fun q q0 q1 => by
      have a1 := g2 q q0 q1
      have a2 := hsand q q0 q1
      have a3 := g_n_in (f := g) (v := q) v
      have a4 := g_n_mo (f := g) (v := q) (a := (min (v : Int) cc).toNat) (b := v) (by omega)
      have a5 := g_n_in (f := g) (v := q) (min (v : Int) cc).toNat
      omega
    -- a drop that is lost
    have lose : min ((v : Int) + 1) cc = min (v : Int) cc → q_At yX0_comeDown cX0_comeDown 6 none 3 0 0 (qK (q_rb b) (fun _ m => (t ≠ -1 → w_j m s t (lt + cc) (fun x => if lt ≤ x then g (x - lt) else f x)) ∧ (∀ q, 0 ≤ q → q < 7 → m (s + 8) q = mem (s + 8) q + (g_n g q out.toNat - g_n g q cc.toNat)) ∧ q_fx (fun c i => (t ≠ -1 ∧ w_x s t c i) ∨ c = s + 8) mem m)) 10 [(2, 23), (2, s), (0, j), (0, t), (0, (v : Int) + 1), (4, 0)] [] (q_sh0, q_rb b, q_up m (s + 8) (g v) (m (s + 8) (g v) + 1)) := by
      intro hm
      refine ih _ ⟨v + 1, by omega, by omega, fun z => ?_, fun q q0 q1 => ?_, g3.up (Or.inr rfl)⟩
      · rw [show ((v + 1 : Nat) : Int) = (v : Int) + 1 by omega, hm]
        exact (g1 z).fo (X := fun c _ => c = s + 8) (q_fx.rf.up rfl) (by omega)
      · rw [show ((v + 1 : Nat) : Int) = (v : Int) + 1 by omega, hm]
        simp only [g_n]
        have a1 := g2 q q0 q1
        by_cases hq : g v = q
        · rw [if_pos hq, hq, q_up_s]; omega
        · rw [if_neg hq, q_up_i (fun z => hq z.symm)]; omega
    refine bkX0_comeDown_10 hs hj (fun z => absurd z (by omega)) (fun _ => ⟨q_in_of (by omega) (by omega), q_in_of (by omega) (by omega), by omega⟩) ?_ ?_ ?_ ?_ ?_ (P4 := fun _ m4 => w_j m4 s t (lt + v + 1) (fun k => if k = lt + v then g v else if lt ≤ k then g (k - lt) else f k) ∧ q_fx (w_x s t) m m4) ?_ (fun _ _ _ _ _ _ _ => q_in_of (by omega) (by omega)) ?_
    · intro _ _; rw [e3]; have := bs (g v) p2 (by omega); exact ⟨by omega, q_in_of (by omega) (by omega), q_in_of (by omega) (by omega)⟩
    · intro _ z; rw [e3]; exact lose (by rw [hcc, if_pos z]; omega)
    · intro _ z; rcases h with h | h
      · exact absurd h z
      · omega
    · intro _ _ _; rw [e3]; have := bs (g v) p2 (by omega); exact ⟨by omega, q_in_of (by omega) (by omega), q_in_of (by omega) (by omega)⟩
    · intro _ z z2; rw [e3]
      have w1 := (g1 z).1
      rw [w1, e2] at z2
      refine lose ?_
      rw [hcc, if_neg z] at z2 ⊢
      omega
    · intro _ z z2; rw [e3]
      have w0 := g1 z
      have w1 := w0.1
      rw [w1, e2] at z2
      have hc : min (v : Int) cc = v := by rw [hcc, if_neg z] at z2 ⊢; omega
      rw [hc] at w0 z2
      rcases h with h | h
      · exact absurd h z
      · exact sp_putBehind hs (by omega) w0 (by omega)
    · rintro _ z z2 r4 m4 ⟨q1, q2⟩ _
      have w0 := g1 z
      have w1 := w0.1
      rw [w1, e2] at z2
      have hc : min (v : Int) cc = v ∧ min ((v : Int) + 1) cc = (v : Int) + 1 := by rw [hcc, if_neg z] at z2 ⊢; omega
      refine ih _ ⟨v + 1, by omega, by omega, fun _ => ?_, fun q q0 q1 => ?_, g3.tr (q2.mono (fun c i y => Or.inl ⟨z, y⟩))⟩
      · rw [show ((v + 1 : Nat) : Int) = (v : Int) + 1 by omega, hc.2, show lt + ((v : Int) + 1) = lt + v + 1 by omega]
        refine q1.en (fun k k0 k1 => ?_)
        by_cases hk : k = lt + v
        · rw [if_pos hk, if_pos (by omega), hk]; congr 1; omega
        · rw [if_neg hk]
      · rw [show ((v + 1 : Nat) : Int) = (v : Int) + 1 by omega, hc.2, show ((v : Int) + 1).toNat = v + 1 by omega, q2 (s + 8) q (by simp only [w_x]; omega)]
        have a1 := g2 q q0 q1
        rw [hc.1, show ((v : Int)).toNat = v by omega] at a1
        omega
  · have := (h.resolve_left z).2.2.1
    have hm : min ((0 : Nat) : Int) cc = 0 := by rw [hcc, if_neg z]; have := h.resolve_left z; omega
    rw [hm, Int.add_zero]
    exact this.en (fun k k0 k1 => by rw [if_neg (by omega)])
  · have hm : min ((0 : Nat) : Int) cc = 0 := by
      rw [hcc]
      split
      · rfl
      · rename_i z; have := h.resolve_left z; omega
    rw [hm]
    simp [g_n]
/-- the class's water that a bell needs -/
theorem sp_strikeC {b s : Int} {mem : qm} (hs : q_st s) (n : Nat) (hn : mem 1 3 = n) (ok : f_ok n (mem (s + 6)) (mem 2) (mem (s + 5)) (mem (s + 4)) (mem (s + 3))) (F : Int → Int → Int) (hF : ∀ j : Int, 0 ≤ j → j < n → w_j mem s j (mem (s + 3) j) (F j)) (hr : ∀ j k : Int, 0 ≤ j → j < n → 0 ≤ k → k < mem (s + 3) j → 0 ≤ F j k ∧ F j k ≤ 6) (hsand : ∀ q, 0 ≤ q → q < 7 → 0 ≤ mem (s + 8) q ∧ mem (s + 8) q ≤ 400000000) (hbe : 0 ≤ mem s 8 ∧ mem s 8 ≤ 400000000) :
    q_Ev yX0_strike cX0_strike 3 none 4 0 0 [(2, 23), (2, s)] (q_sh0, q_rb b, mem) (qK (q_rb b) (fun _ m =>
      (∀ j : Int, 0 ≤ j → j < n → w_j m s j ((f_d (mem (s + 6)) (mem 2) (f_o (mem (s + 4)) (mem (s + 5)) (mem (s + 3))) (mem (s + 3)) n).1 j) (b_f (mem (s + 6)) (mem 2) (f_o (mem (s + 4)) (mem (s + 5)) (mem (s + 3))) (mem (s + 3)) F n j) ∧ m (s + 4) j = max 0 (mem (s + 4) j - 1)) ∧
      (∀ q, 0 ≤ q → q < 7 → m (s + 8) q = mem (s + 8) q + b_s (mem (s + 6)) (mem 2) (f_o (mem (s + 4)) (mem (s + 5)) (mem (s + 3))) (mem (s + 3)) F q n) ∧ m s 8 = mem s 8 + 1 ∧ m s 9 = 0 ∧
      q_fx (fun c i => (c = s ∧ 8 ≤ i) ∨ c = s + 1 ∨ c = s + 2 ∨ c = s + 3 ∨ c = s + 4 ∨ c = s + 8 ∨ c = 24 ∨ c = 25) mem m)) := by
  have hgap := qst_gap hs
  have h9 := ok.1
  generalize hu : mem (s + 6) = u at ok ⊢
  generalize hc : mem 2 = c at ok ⊢
  generalize hh : mem (s + 5) = h at ok ⊢
  generalize hw : mem (s + 4) = w at ok ⊢
  generalize hl : mem (s + 3) = l at ok hF hr ⊢
  generalize ho : f_o w h l = o
  have hoi : ∀ j : Int, 0 ≤ j → j < n → 0 ≤ o j ∧ o j ≤ l j ∧ o j ≤ 9 := fun j a b => by rw [← ho]; exact f_o_in ok a b
  have hdi := fun k hk => f_d_in ok k hk
  rw [ho] at hdi
  generalize hX : (fun (c i : Int) => (c = s ∧ 8 ≤ i) ∨ c = s + 1 ∨ c = s + 2 ∨ c = s + 3 ∨ c = s + 4 ∨ c = s + 8 ∨ c = 24 ∨ c = 25) = X
  have hX' : ∀ c i, X c i ↔ ((c = s ∧ 8 ≤ i) ∨ c = s + 1 ∨ c = s + 2 ∨ c = s + 3 ∨ c = s + 4 ∨ c = s + 8 ∨ c = 24 ∨ c = 25) := fun c i => by rw [← hX]
  generalize hQ : (fun (_ : Int) (m : qm) => (∀ j : Int, 0 ≤ j → j < n → w_j m s j ((f_d u c o l n).1 j) (b_f u c o l F n j) ∧ m (s + 4) j = max 0 (w j - 1)) ∧ (∀ q, 0 ≤ q → q < 7 → m (s + 8) q = mem (s + 8) q + b_s u c o l F q n) ∧ m s 8 = mem s 8 + 1 ∧ m s 9 = 0 ∧ q_fx X mem m) = Q
  -- the third loop
  have k3 : ∀ m : qm, q_fx X mem m → m s 8 = mem s 8 → (∀ j : Int, 0 ≤ j → j < n → w_j m s j ((f_d u c o l n).1 j) (b_f u c o l F n j) ∧ m (s + 4) j = w j) → (∀ q, 0 ≤ q → q < 7 → m (s + 8) q = mem (s + 8) q + b_s u c o l F q n) →
      q_At yX0_strike cX0_strike 3 none 4 0 0 (qK (q_rb b) Q) 52 [(2, 23), (2, s), (0, 0)] [] (q_sh0, q_rb b, m) := by
    intro m0 f0 b0 a0 s0
    refine q_for (A := fun i m => q_At yX0_strike cX0_strike 3 none 4 0 0 _ 52 [(2, 23), (2, s), (0, i)] [] (q_sh0, q_rb b, m)) (fun i m => 0 ≤ i ∧ q_fx X mem m ∧ m s 8 = mem s 8 ∧ (∀ j : Int, 0 ≤ j → j < n → w_j m s j ((f_d u c o l n).1 j) (b_f u c o l F n j) ∧ m (s + 4) j = if j < i then max 0 (w j - 1) else w j) ∧ (∀ q, 0 ≤ q → q < 7 → m (s + 8) q = mem (s + 8) q + b_s u c o l F q n)) n ?_ ?_ 0 m0 ⟨by omega, f0, b0, fun j a b => ⟨(a0 j a b).1, by rw [if_neg (by omega)]; exact (a0 j a b).2⟩, s0⟩
    · rintro i m hi ⟨i0, f1, b1, a1, s1⟩
      have e0 : m 1 3 = n := (f1 1 3 (by rw [hX']; omega)).trans hn
      refine bkX0_strike_52 hs (fun _ => q_in_of (by omega) (by omega)) (fun _ => ?_) (fun z => absurd z (by omega)) (fun z => absurd z (by omega))
      rw [← hQ]
      have g : q_fx (fun c i => c = s ∧ 8 ≤ i) m (q_up (q_up m s 8 (m s 8 + 1)) s 9 0) := (q_fx.rf.up ⟨rfl, by decide⟩).up ⟨rfl, by decide⟩
      refine ⟨fun j a b => ⟨(a1 j a b).1.fo g (by omega), ?_⟩, fun q q0 q1 => ?_, ?_, q_up_s, f1.tr (g.mono (fun c i z => by rw [hX']; omega))⟩
      · rw [g _ _ (by omega), (a1 j a b).2, if_pos (by omega)]
      · rw [g _ _ (by omega)]; exact s1 q q0 q1
      · rw [q_up_i (by decide), q_up_s]; omega
    · rintro i m hi ⟨i0, f1, b1, a1, s1⟩ ih
      have e0 : m 1 3 = n := (f1 1 3 (by rw [hX']; omega)).trans hn
      have e1 := (a1 i i0 hi).2
      rw [if_neg (by omega)] at e1
      have e2 := ok.2 i i0 hi
      refine bkX0_strike_52 hs (fun z => absurd z (by omega)) (fun z => absurd z (by omega)) (fun _ => ⟨by omega, q_in_of (by omega) (by omega), q_in_of (by omega) (by omega)⟩) (fun _ => ?_)
      rw [e1]
      have g : q_fx (fun c _ => c = s + 4) m (q_up m (s + 4) i (max 0 (w i - 1))) := q_fx.rf.up rfl
      refine ih _ ⟨by omega, f1.tr (g.mono (fun c i z => by rw [hX']; omega)), (g _ _ (by omega)).trans b1, fun j a b => ⟨(a1 j a b).1.fo g (by omega), ?_⟩, fun q q0 q1 => (g _ _ (by omega)).trans (s1 q q0 q1)⟩
      by_cases hj : j = i
      · subst hj; rw [q_up_s, if_pos (by omega)]
      · rw [q_up_i hj, (a1 j a b).2]
        by_cases h2 : j < i
        · rw [if_pos h2, if_pos (by omega)]
        · rw [if_neg h2, if_neg (by omega)]
  -- the second loop
  have k2 : ∀ m : qm, q_fx X mem m → m s 8 = mem s 8 → (∀ j : Int, 0 ≤ j → j < n → w_j m s j (l j - o j) (fun k => F j (k + o j)) ∧ m (s + 4) j = w j ∧ m 25 j = o j ∧ ∀ k, 0 ≤ k → k < o j → m 24 (9 * j + k) = F j k) → (∀ q, 0 ≤ q → q < 7 → m (s + 8) q = mem (s + 8) q) →
      q_At yX0_strike cX0_strike 3 none 4 0 0 (qK (q_rb b) Q) 27 [(2, 23), (2, s), (0, 0)] [] (q_sh0, q_rb b, m) := by
    intro m0 f0 b0 a0 s0
    refine q_for (A := fun i m => q_At yX0_strike cX0_strike 3 none 4 0 0 _ 27 [(2, 23), (2, s), (0, i)] [] (q_sh0, q_rb b, m)) (fun i m => ∃ v : Nat, i = v ∧ v ≤ n ∧ q_fx X mem m ∧ m s 8 = mem s 8 ∧ (∀ j : Int, 0 ≤ j → j < n → w_j m s j ((f_d u c o l v).1 j) (b_f u c o l F v j) ∧ m (s + 4) j = w j ∧ m 25 j = o j ∧ ∀ k, 0 ≤ k → k < o j → m 24 (9 * j + k) = F j k) ∧ (∀ q, 0 ≤ q → q < 7 → m (s + 8) q = mem (s + 8) q + b_s u c o l F q v ∧ 0 ≤ m (s + 8) q ∧ m (s + 8) q ≤ 400000000 + 9 * v)) n ?_ ?_ 0 m0 ⟨0, rfl, by omega, f0, b0, a0, fun q q0 q1 => ⟨by rw [s0 q q0 q1]; simp [b_s], by rw [s0 q q0 q1]; exact (hsand q q0 q1).1, by rw [s0 q q0 q1]; have := (hsand q q0 q1).2; omega⟩⟩
    · rintro i m hi ⟨v, rfl, hv, f1, b1, a1, s1⟩
      have e0 : m 1 3 = n := (f1 1 3 (by rw [hX']; omega)).trans hn
      have hvn : v = n := by omega
      subst hvn
      exact bkX0_strike_27 (P2 := fun _ _ => True) hs (fun _ => k3 m f1 b1 (fun j a b => ⟨(a1 j a b).1, (a1 j a b).2.1⟩) (fun q q0 q1 => (s1 q q0 q1).1)) (fun z => absurd z (by omega)) (fun z => absurd z (by omega)) (fun z => absurd z (by omega))
    · rintro i m hi ⟨v, rfl, hv, f1, b1, a1, s1⟩ ih
      have e0 : m 1 3 = n := (f1 1 3 (by rw [hX']; omega)).trans hn
      have eu : m (s + 6) v = u v := by rw [f1 (s + 6) v (by rw [hX']; omega), hu]
      have ec : ∀ k, m 2 k = c k := fun k => by rw [f1 2 k (by rw [hX']; omega), hc]
      have ov := hoi v (by omega) (by omega)
      have okv := ok.2 v (by omega) (by omega)
      have av := a1 v (by omega) (by omega)
      have ht : u v = -1 ∨ (0 ≤ u v ∧ u v < n) := okv.1
      have hcc : b_c u c o l v = if u v = -1 then 0 else min (o v) (m 2 (u v) - (f_d u c o l v).1 (u v)) := by unfold b_c; rw [ec]
      refine bkX0_strike_27 hs (fun z => absurd z (by omega)) (fun _ => sp_comeDownC (out := o v) (g := F v) (lt := (f_d u c o l v).1 (u v)) (f := b_f u c o l F v (u v)) hs (by omega) av.2.2.1 (by omega) (fun k k0 k1 => ⟨av.2.2.2 k k0 k1, hr v k (by omega) (by omega) k0 (by omega)⟩) (fun q q0 q1 => by have := s1 q q0 q1; omega) (u v) eu ?_ (b_c u c o l v) hcc) (fun _ _ _ _ _ => q_in_of (by omega) (by omega)) ?_
      · rcases ht with ht | ht
        · exact Or.inl ht
        · have d1 := (hdi v (by omega)).1 (u v) ht.1 ht.2
          have okt := ok.2 (u v) ht.1 ht.2
          exact Or.inr ⟨by omega, by omega, (a1 (u v) ht.1 ht.2).1, d1.1, by rw [ec]; exact d1.2, by rw [ec]; omega⟩
      · rintro _ r2 m2 ⟨t1, t2, t3⟩ _
        have t3' : q_fx X m m2 := t3.mono (fun c i z => by rw [hX']; simp only [w_x] at z; omega)
        have cb : 0 ≤ b_c u c o l v ∧ b_c u c o l v ≤ o v := by
          rw [hcc]
          split
          · omega
          · have d1 := (hdi v (by omega)).1 (u v) (by omega) (by omega)
            rw [ec]; omega
        refine ih _ ⟨v + 1, by omega, by omega, f1.tr t3', (t3 s 8 (by simp only [w_x]; omega)).trans b1, fun j a b => ⟨?_, ?_, ?_, fun k k0 k1 => ?_⟩, fun q q0 q1 => ?_⟩
        · by_cases hj : u v ≠ -1 ∧ j = u v
          · obtain ⟨j1, rfl⟩ := hj
            have e1 : (f_d u c o l (v + 1)).1 (u v) = (f_d u c o l v).1 (u v) + b_c u c o l v := by
              unfold b_c; simp only [f_d]; rw [if_neg j1, if_neg j1]; simp only [if_true, ite_true]
            rw [e1]
            refine (t1 j1).en (fun k k0 k1 => ?_)
            simp only [b_f]
            by_cases hk : (f_d u c o l v).1 (u v) ≤ k
            · rw [if_pos hk, if_pos ⟨j1, trivial, hk⟩]
            · rw [if_neg hk, if_neg (fun z => hk z.2.2)]
          · have e1 : (f_d u c o l (v + 1)).1 j = (f_d u c o l v).1 j := by
              simp only [f_d]
              by_cases hu1 : u v = -1
              · rw [if_pos hu1]
              · rw [if_neg hu1]; simp only; rw [if_neg (fun z => hj ⟨hu1, z⟩)]
            rw [e1]
            have w1 : w_j m2 s j ((f_d u c o l v).1 j) (b_f u c o l F v j) := by
              refine (a1 j a b).1.fr (t3 _ _ ?_) (t3 _ _ ?_) (fun i i0 i1 => t3 _ _ ?_)
              · simp only [w_x]; omega
              · simp only [w_x]; omega
              · simp only [w_x]; omega
            refine w1.en (fun k k0 k1 => ?_)
            simp only [b_f]
            rw [if_neg (fun z => hj ⟨z.1, z.2.1⟩)]
        · rw [t3 _ _ (by simp only [w_x]; omega)]; exact (a1 j a b).2.1
        · rw [t3 _ _ (by simp only [w_x]; omega)]; exact (a1 j a b).2.2.1
        · rw [t3 _ _ (by simp only [w_x]; omega)]; exact (a1 j a b).2.2.2 k k0 k1
        · have a1 := t2 q q0 q1
          have a2 := s1 q q0 q1
          have g1 := g_n_in (f := F v) (v := q) (o v).toNat
          have g2 := g_n_in (f := F v) (v := q) (b_c u c o l v).toNat
          have g3 := g_n_mo (f := F v) (v := q) (a := (b_c u c o l v).toNat) (b := (o v).toNat) (by omega)
          simp only [b_s]
          omega
  -- the first loop
  refine q_enter (by decide +kernel) (by simp) (Nat.le_of_ble_eq_true rfl) ?_
  refine bkX0_strike_0 hs ?_
  refine q_for (A := fun i m => q_At yX0_strike cX0_strike 3 none 4 0 0 _ 2 [(2, 23), (2, s), (0, i)] [] (q_sh0, q_rb b, m)) (fun i m => 0 ≤ i ∧ i ≤ n ∧ q_fx (fun c _ => c = s + 1 ∨ c = s + 2 ∨ c = s + 3 ∨ c = 24 ∨ c = 25) mem m ∧ (∀ j : Int, 0 ≤ j → j < n → if j < i then w_j m s j (l j - o j) (fun k => F j (k + o j)) ∧ m 25 j = o j ∧ ∀ k, 0 ≤ k → k < o j → m 24 (9 * j + k) = F j k else w_j m s j (l j) (F j))) n ?_ ?_ 0 mem ⟨by omega, by omega, q_fx.rf, fun j a b => by rw [if_neg (by omega)]; exact hF j a b⟩
  · rintro i m hi ⟨i0, i1, f1, a1⟩
    have e0 : m 1 3 = n := (f1 1 3 (by omega)).trans hn
    refine bkX0_strike_2 (P2 := fun _ _ => True) hs (fun _ => k2 m (f1.mono (fun c i z => by rw [hX']; omega)) (f1 _ _ (by omega)) (fun j a b => ?_) (fun q _ _ => f1 _ _ (by omega))) (fun z => absurd z (by omega)) (fun z => absurd z (by omega)) (fun z => absurd z (by omega))
    have := a1 j a b
    rw [if_pos (by omega)] at this
    exact ⟨this.1, by rw [f1 _ _ (by omega), hw], this.2.1, this.2.2⟩
  · rintro i m hi ⟨i0, i1, f1, a1⟩ ih
    have e0 : m 1 3 = n := (f1 1 3 (by omega)).trans hn
    have w1 := a1 i i0 hi
    rw [if_neg (by omega)] at w1
    have oki := ok.2 i i0 hi
    have e5 : m (s + 5) i = h i := by rw [f1 _ _ (by omega), hh]
    have e4 : m (s + 4) i = w i := by rw [f1 _ _ (by omega), hw]
    refine bkX0_strike_2 hs (fun z => absurd z (by omega)) (fun _ => sp_letGoC (out := o i) hs (by omega) w1 (by omega) (by rw [e5]; omega) (by rw [e4, e5, ← ho]; rfl)) (fun _ _ _ _ _ => q_in_of (by omega) (by omega)) ?_
    rintro _ r2 m2 ⟨t1, t2, t3, t4⟩ _
    refine ih _ ⟨by omega, by omega, f1.tr (t4.mono (fun c i z => by simp only [w_x] at z; omega)), fun j a b => ?_⟩
    by_cases hj : j = i
    · subst hj
      rw [if_pos (by omega)]
      exact ⟨t3, t1, t2⟩
    · have := a1 j a b
      by_cases h2 : j < i
      · rw [if_pos h2] at this
        rw [if_pos (by omega)]
        refine ⟨this.1.fr (t4 _ _ (by simp only [w_x]; omega)) (t4 _ _ (by simp only [w_x]; omega)) (fun i' a b => t4 _ _ (by simp only [w_x]; omega)), (t4 _ _ (by simp only [w_x]; omega)).trans this.2.1, fun k k0 k1 => (t4 _ _ ?_).trans (this.2.2 k k0 k1)⟩
        have := hoi j a b
        simp only [w_x]; omega
      · rw [if_neg h2] at this
        rw [if_neg (by omega)]
        exact this.fr (t4 _ _ (by simp only [w_x]; omega)) (t4 _ _ (by simp only [w_x]; omega)) (fun i' a b => t4 _ _ (by simp only [w_x]; omega))
