/-! ===== the class's payoff ===== -/
noncomputable def b_fp : Nat → Int → b_Q → Int
  | 0, _, _ => -2
  | d + 1, i, Q => if i < Q.1 then q_if (b_paid (Q.2.1 i)) i (b_fp d (i + 1) Q) else -2
def b_z : b_Q := (0, fun _ _ => 0, fun _ => 0, fun _ => 0)
noncomputable def b_Q0 (f : Int → Int) : b_Q := b_app b_z f 0 0
noncomputable def b_srch (n : Nat) (T : a_T) (f : Int → Int) : Int × b_Q := if (b_I n T 3001 0 (b_Q0 f)).1 = 0 then (-3, (b_I n T 3001 0 (b_Q0 f)).2) else (b_fp 3001 0 (b_I n T 3001 0 (b_Q0 f)).2, (b_I n T 3001 0 (b_Q0 f)).2)
def b_dep (par : Int → Int) : Nat → Int → Int
  | 0, _ => 0
  | k + 1, i => if 0 < i then 1 + b_dep par k (par i) else 0
def b_anc (par : Int → Int) : Nat → Int → Int
  | 0, i => i
  | k + 1, i => b_anc par k (par i)
noncomputable def b_res (n : Nat) (T : a_T) (f : Int → Int) : Int := if (b_srch n T f).1 < 0 then (b_srch n T f).1 else b_dep (b_srch n T f).2.2.2.1 (b_srch n T f).1.toNat (b_srch n T f).1
noncomputable def b_tl (n : Nat) (T : a_T) (f : Int → Int) (k : Int) : Int := (b_srch n T f).2.2.2.2 (b_anc (b_srch n T f).2.2.2.1 (b_res n T f - 1 - k).toNat (b_srch n T f).1)
theorem b_fp_r {Q : b_Q} : ∀ (d : Nat) (i : Int), 0 ≤ i → b_fp d i Q = -2 ∨ (0 ≤ b_fp d i Q ∧ b_fp d i Q < Q.1)
  | 0, _, _ => Or.inl rfl
  | d + 1, i, i0 => by
    rw [b_fp]
    by_cases c : i < Q.1
    · rw [if_pos c]
      by_cases p : b_paid (Q.2.1 i)
      · rw [q_if_pos p]; exact Or.inr ⟨i0, c⟩
      · rw [q_if_neg p]; exact b_fp_r d (i + 1) (by omega)
    · rw [if_neg c]; exact Or.inl rfl
theorem b_dep_st {par : Int → Int} {cnt : Int} (hp : ∀ i, 0 < i → i < cnt → 0 ≤ par i ∧ par i < i) : ∀ (k k' : Nat) (i : Int), i < cnt → i ≤ k → i ≤ k' → b_dep par k i = b_dep par k' i
  | 0, 0, _, _, _, _ => rfl
  | 0, k' + 1, i, _, h, _ => by show 0 = (if 0 < i then _ else 0); rw [if_neg (by omega)]
  | k + 1, 0, i, _, _, h => by show (if 0 < i then _ else 0) = (0 : Int); rw [if_neg (by omega)]
  | k + 1, k' + 1, i, hc, h, h' => by
    show (if 0 < i then 1 + b_dep par k (par i) else 0) = (if 0 < i then 1 + b_dep par k' (par i) else 0)
    by_cases c : 0 < i
    · have := hp i c hc
      rw [if_pos c, if_pos c, b_dep_st hp k k' (par i) (by omega) (by omega) (by omega)]
    · rw [if_neg c, if_neg c]
theorem b_dep_s {par : Int → Int} {cnt : Int} (hp : ∀ i, 0 < i → i < cnt → 0 ≤ par i ∧ par i < i) {i : Int} (h0 : 0 < i) (h1 : i < cnt) : b_dep par i.toNat i = 1 + b_dep par (par i).toNat (par i) := by
  have q := hp i h0 h1
  obtain ⟨k, rfl⟩ : ∃ k : Nat, i = (k : Int) + 1 := ⟨(i - 1).toNat, by omega⟩
  rw [show ((k : Int) + 1).toNat = k + 1 by omega]
  show (if 0 < (k : Int) + 1 then 1 + b_dep par k (par ((k : Int) + 1)) else 0) = _
  rw [if_pos h0, b_dep_st hp k (par ((k : Int) + 1)).toNat (par ((k : Int) + 1)) (by omega) (by omega) (by omega)]
theorem b_dep_0 {par : Int → Int} {i : Int} (h : i ≤ 0) : b_dep par i.toNat i = 0 := by rw [show i.toNat = 0 by omega]; rfl
theorem b_dep_r {par : Int → Int} : ∀ (k : Nat) (i : Int), 0 ≤ b_dep par k i ∧ b_dep par k i ≤ k
  | 0, _ => ⟨Int.le_refl _, Int.le_refl _⟩
  | k + 1, i => by
    show 0 ≤ (if 0 < i then 1 + b_dep par k (par i) else 0) ∧ (if 0 < i then 1 + b_dep par k (par i) else 0) ≤ ((k + 1 : Nat) : Int)
    have := b_dep_r (par := par) k (par i)
    split <;> omega
theorem b_QV.B {n : Nat} {T : a_T} (t : a_TV n T) {i x : Int} (hx : 0 ≤ x ∧ x < n) : ∀ (d : Nat) (y : Int) (Q : b_Q), b_QV n T Q → 0 ≤ i ∧ i < Q.1 → 0 ≤ y → y + d ≤ n → b_QV n T (b_B n T i x d y Q).2 ∧ Q.1 ≤ (b_B n T i x d y Q).2.1
  | 0, _, Q, q, _, _, _ => ⟨q, Int.le_refl _⟩
  | d + 1, y, Q, q, hi, y0, y1 => by
    have o := q.one t hi hx (y := y) ⟨y0, by omega⟩
    rw [b_B]
    split
    · exact ⟨o.1, o.2.1⟩
    · have r := b_QV.B t (i := i) hx d (y + 1) _ o.1 ⟨hi.1, by have := o.2.1; omega⟩ (by omega) (by omega)
      exact ⟨r.1, Int.le_trans o.2.1 r.2⟩
theorem b_QV.A {n : Nat} {T : a_T} (t : a_TV n T) {i : Int} : ∀ (d : Nat) (x : Int) (Q : b_Q), b_QV n T Q → 0 ≤ i ∧ i < Q.1 → 0 ≤ x → x + d ≤ n → b_QV n T (b_A n T i d x Q).2 ∧ Q.1 ≤ (b_A n T i d x Q).2.1
  | 0, _, Q, q, _, _, _ => ⟨q, Int.le_refl _⟩
  | d + 1, x, Q, q, hi, x0, x1 => by
    have o := b_QV.B t (i := i) (x := x) ⟨x0, by omega⟩ n 0 Q q hi (by decide) (by omega)
    rw [b_A]
    split
    · exact ⟨o.1, o.2⟩
    · have r := b_QV.A t (i := i) d (x + 1) _ o.1 ⟨hi.1, by have := o.2; omega⟩ (by omega) (by omega)
      exact ⟨r.1, Int.le_trans o.2 r.2⟩
theorem b_QV.I {n : Nat} {T : a_T} (t : a_TV n T) : ∀ (d : Nat) (i : Int) (Q : b_Q), b_QV n T Q → 0 ≤ i → b_QV n T (b_I n T d i Q).2
  | 0, _, Q, q, _ => q
  | d + 1, i, Q, q, i0 => by
    rw [b_I]
    by_cases c : i < Q.1
    · rw [if_pos c]
      have o := b_QV.A t (i := i) n 0 Q q ⟨i0, c⟩ (by decide) (by omega)
      split
      · exact o.1
      · exact b_QV.I t d (i + 1) _ o.1 (by omega)
    · rw [if_neg c]; exact q
theorem b_Q0_V {n : Nat} {T : a_T} {f : Int → Int} (h : b_ok n T f) : b_QV n T (b_Q0 f) := by
  refine ⟨by show (1 : Int) ≤ 0 + 1; decide, by show (0 : Int) + 1 ≤ 3000; decide, fun i i0 i1 => ?_, fun i i0 i1 => ?_⟩
  · have i1 : i < 0 + 1 := i1
    show b_ok n T (if i = 0 then f else _)
    rw [if_pos (by omega)]; exact h
  · have i1 : i < 0 + 1 := i1
    omega
theorem b_srch_V {n : Nat} {T : a_T} (t : a_TV n T) {f : Int → Int} (h : b_ok n T f) : b_QV n T (b_srch n T f).2 ∧ ((b_srch n T f).1 < 0 ∨ (0 ≤ (b_srch n T f).1 ∧ (b_srch n T f).1 < (b_srch n T f).2.1)) := by
  have v := b_QV.I t 3001 0 (b_Q0 f) (b_Q0_V h) (by decide)
  unfold b_srch
  split
  · exact ⟨v, Or.inl (by show (-3 : Int) < 0; decide)⟩
  · refine ⟨v, ?_⟩
    rcases b_fp_r (Q := (b_I n T 3001 0 (b_Q0 f)).2) 3001 0 (by decide) with e | e
    · left; show b_fp _ _ _ < 0; rw [e]; decide
    · exact Or.inr e
theorem b_in_z {n : Nat} {N : Int → Int} : ¬ b_in n b_z N := fun ⟨j, j0, j1, _⟩ => by have j1 : j < 0 := j1; omega
theorem b_add_z {n : Nat} {f : Int → Int} : b_add n b_z f 0 0 = (1, b_Q0 f) := by
  unfold b_add
  rw [q_if_neg b_in_z, if_pos (show b_z.1 < 3000 by decide)]; rfl
theorem g_s_zero {f : Int → Int} : ∀ k : Nat, (∀ p : Int, 0 ≤ p → p < k → f p = 0) → g_s f k = 0
  | 0, _ => rfl
  | k + 1, h => by
    show g_s f k + f k = 0
    rw [g_s_zero k (fun p a b => h p a (by omega)), h k (by omega) (by omega)]; rfl
theorem b_H_z {tab : Int → Int} {M : Int} {h : Int → Int} (hM : 0 ≤ M) (hz : ∀ p, 0 ≤ p → p < M → tab p = 0) : b_H tab M h 0 :=
  ⟨fun p p0 p1 => by rw [hz p p0 p1]; decide, g_s_zero _ (fun p p0 p1 => by show (if tab p = 0 then 0 else 1) = (0 : Int); rw [if_pos (hz p p0 (by omega))]), fun j j0 j1 => by omega⟩
abbrev x_poC (c i : Int) : Prop := x_goC c i ∨ (c = 0 ∧ i = 16) ∨ c = 169
section PAYF
variable {b : Int} {m : qm} {n : Nat} {T : a_T}
theorem sp_searchC (t : a_TV n T) (cT : c_T m n T) {s : Int} (hs : q_st s) {f : Int → Int} (h1 : ∀ j : Int, 0 ≤ j → j < n → m (s + 3) j = f j) (h2 : ∀ d : Int, 0 ≤ d → d < 36 → m (s + 7) d = f (9 + d)) (h : b_ok n T f) : q_Ev yX4_search cX4_search 3 (some .int) 5 0 0 [(2, 163), (2, s)] (q_sh0, q_rb b, m) (qK (q_rb b) (fun r m' => r = (b_srch n T f).1 ∧ c_Qs m' n (b_srch n T f).2 ∧ q_fx x_goC m m')) := by
  have s3 : ∀ m' : qm, q_fx x_goC m m' → ∀ i, m' (s + 3) i = m (s + 3) i := fun m' F i => F _ _ (by unfold q_st at hs; simp at hs; unfold x_goC x_enC; omega)
  have s7 : ∀ m' : qm, q_fx x_goC m m' → ∀ i, m' (s + 7) i = m (s + 7) i := fun m' F i => F _ _ (by unfold q_st at hs; simp at hs; unfold x_goC x_enC; omega)
  have paid : ∀ (d : Nat) (i : Int) (Q : b_Q) (m' : qm), 0 ≤ i → i + d = 3001 → i ≤ Q.1 → c_Qs m' n Q → b_QV n T Q → q_fx x_goC m m' → b_srch n T f = (b_fp d i Q, Q) → q_At yX4_search cX4_search 3 (some .int) 5 0 0 (qK (q_rb b) (fun r m' => r = (b_srch n T f).1 ∧ c_Qs m' n (b_srch n T f).2 ∧ q_fx x_goC m m')) 61 [(2, 163), (2, s), (0, i)] [] (q_sh0, q_rb b, m') := by
    intro d
    induction d with
    | zero => intro i Q m' i0 hi hQ q qv F e; have := qv.2.1; omega
    | succ d ih =>
      intro i Q m' i0 hi hQ q qv F e
      have q1 := q.1
      have q3 := qv.2.1
      rw [b_fp] at e
      by_cases c : i < Q.1
      · rw [if_pos c] at e
        refine bkX4_search_61 hs (fun z => absurd z (by omega)) (fun _ => sp_isPaidC (q.2.1 i i0 c) (qv.2.2.1 i i0 c) (by omega)) (fun _ _ _ _ _ _ => q_in_of (by omega) (by omega)) ?_ ?_
        · rintro _ r2 m2 ⟨rfl, g⟩ _ z
          have g := g.resolve_left (fun y => by omega)
          rw [q_if_neg g.2] at e
          exact ih (i + 1) Q m2 (by omega) (by omega) (by omega) q qv F e
        · rintro _ r2 m2 ⟨rfl, g⟩ _ z
          have g := g.resolve_right (fun y => z y.1)
          rw [q_if_pos g.2] at e
          rw [e]; exact ⟨rfl, q, F⟩
      · rw [if_neg c] at e
        exact bkX4_search_61 (P2 := fun _ _ => True) hs (fun _ => by rw [e]; exact ⟨rfl, q, F⟩) (fun z => absurd z (by omega)) (fun z => absurd z (by omega)) (fun z => absurd z (by omega)) (fun z => absurd z (by omega))
  obtain ⟨R, hR⟩ : ∃ R, R = b_I n T 3001 0 (b_Q0 f) := ⟨_, rfl⟩
  have go : ∀ (d : Nat) (i : Int) (Q : b_Q) (m' : qm), 0 ≤ i → i + d = 3001 → i ≤ Q.1 → c_Qs m' n Q → b_QV n T Q → q_fx x_goC m m' → R = b_I n T d i Q → q_At yX4_search cX4_search 3 (some .int) 5 0 0 (qK (q_rb b) (fun r m' => r = (b_srch n T f).1 ∧ c_Qs m' n (b_srch n T f).2 ∧ q_fx x_goC m m')) 27 [(2, 163), (2, s), (0, i)] [] (q_sh0, q_rb b, m') := by
    intro d
    induction d with
    | zero => intro i Q m' i0 hi hQ q qv F e; have := qv.2.1; omega
    | succ d ih =>
      intro i Q m' i0 hi hQ q qv F e
      have q1 := q.1
      have q3 := qv.2.1
      have q0 := qv.1
      rw [b_I] at e
      by_cases c : i < Q.1
      · rw [if_pos c] at e
        have mo := b_QV.A t (i := i) n 0 Q qv ⟨i0, c⟩ (by decide) (by omega)
        refine bkX4_search_27 hs (fun z => absurd z (by omega)) (fun _ z => absurd z (by omega)) (fun _ _ => sp_goOnC t (cT.go F) q qv ⟨i0, c⟩) (fun _ _ _ _ _ _ _ => q_in_of (by omega) (by omega)) ?_ ?_
        · rintro _ _ r3 m3 ⟨e3, c3, v3, f3⟩ _ z
          rw [if_neg (by rw [← e3]; exact z)] at e
          exact ih (i + 1) _ m3 (by omega) (by omega) (by have := mo.2; omega) c3 v3 (F.tr f3) e
        · rintro _ _ r3 m3 ⟨e3, c3, v3, f3⟩ _ z
          have z0 : (b_A n T i n 0 Q).1 = 0 := by rw [← e3]; exact z
          rw [if_pos z0] at e
          have es : b_srch n T f = (-3, (b_A n T i n 0 Q).2) := by unfold b_srch; rw [← hR, e, if_pos z0]
          rw [es]; exact ⟨rfl, c3, F.tr f3⟩
      · rw [if_neg c] at e
        have es : b_srch n T f = (b_fp 3001 0 Q, Q) := by unfold b_srch; rw [← hR, e, if_neg (show ¬ (1 : Int) = 0 by decide)]
        exact bkX4_search_27 (P3 := fun _ _ => True) hs (fun _ => paid 3001 0 Q m' (by decide) (by decide) (by omega) q qv F es) (fun z => absurd z (by omega)) (fun z => absurd z (by omega)) (fun z => absurd z (by omega)) (fun z => absurd z (by omega)) (fun z => absurd z (by omega))
  refine q_enter (by decide +kernel) (by simp) (Nat.le_of_ble_eq_true rfl) ?_
  have fg : ∀ m1, q_fx (fun c _ => c = 167) m m1 → q_fx x_goC m (q_up m1 163 5 0) := fun m1 f1 => (f1.mono (fun c i z => Or.inr (Or.inr (Or.inr (Or.inl z))))).up (Or.inr (Or.inr (Or.inr (Or.inr ⟨rfl, rfl⟩))))
  refine bkX4_search_0 (P2 := fun _ m1 _ m2 => c_sT m2 0 n f ∧ q_fx (fun c _ => c = 164) (q_up m1 163 5 0) m2) (P3 := fun _ _ _ m2 r3 m3 => r3 = (b_add n b_z f 0 0).1 ∧ c_Qs m3 n (b_add n b_z f 0 0).2 ∧ q_fx x_enC m2 m3) hs sp_fill7 ?_ ?_ ?_
  · rintro r1 m1 ⟨z1, f1⟩ _
    have F := fg m1 f1
    exact sp_writeStartC t (cT.go F) hs (fun j j0 j1 => by rw [s3 _ F]; exact h1 j j0 j1) (fun d d0 d1 => by rw [s7 _ F]; exact h2 d d0 d1) h
  · rintro r1 m1 ⟨z1, f1⟩ _ r2 m2 ⟨c2, f2⟩ _
    refine sp_enterC t (Q := b_z) ⟨?_, fun i i0 i1 => ?_, fun i i0 i1 => ?_, ?_⟩ ⟨by decide, by decide, fun i i0 i1 => ?_⟩ c2 h 0 0
    · rw [f2 163 5 (by decide), q_up_s]; rfl
    · have i1 : i < 0 := i1; omega
    · have i1 : i < 0 := i1; omega
    · refine b_H_z (by decide) (fun p p0 p1 => ?_)
      rw [f2 167 p (by show ¬ (167 : Int) = 164; decide), q_up_c (by decide)]; exact z1 p p0 p1
    · have i1 : i < 0 := i1; omega
  · rintro r1 m1 ⟨z1, f1⟩ _ r2 m2 ⟨c2, f2⟩ _ r3 m3 ⟨e3, c3, f3⟩ _
    rw [b_add_z] at c3
    exact go 3001 0 (b_Q0 f) m3 (by decide) (by decide) (by show (0 : Int) ≤ 0 + 1; decide) c3 (b_Q0_V h) (((fg m1 f1).tr (f2.mono (fun c i z => Or.inl z))).tr (f3.mono (fun c i z => Or.inr z))) hR
theorem sp_stepsToC {Q : b_Q} (q : c_Qs m n Q) (qv : b_QV n T Q) {v : Int} (hv : 0 ≤ v ∧ v < Q.1) : q_Ev yX4_stepsTo cX4_stepsTo 4 (some .int) 1 0 0 [(2, 163), (0, v)] (q_sh0, q_rb b, m) (qK (q_rb b) (fun r m' => m' = m ∧ r = b_dep Q.2.2.1 v.toNat v)) := by
  have q1 := q.1
  have q3 := qv.2.1
  refine q_enter (by decide +kernel) (by simp) (Nat.le_of_ble_eq_true rfl) ?_
  have go : ∀ (d : Nat) (v2 v3 : Int), v3 < d → 0 ≤ v2 → 0 ≤ v3 → v3 < Q.1 → v2 + v3 < 3000 → b_dep Q.2.2.1 v.toNat v = v2 + b_dep Q.2.2.1 v3.toNat v3 → q_At yX4_stepsTo cX4_stepsTo 4 (some .int) 1 0 0 (qK (q_rb b) (fun r m' => m' = m ∧ r = b_dep Q.2.2.1 v.toNat v)) 4 [(2, 163), (0, v), (0, v2), (0, v3)] [] (q_sh0, q_rb b, m) := by
    intro d
    induction d with
    | zero => intro v2 v3 hd; omega
    | succ d ih =>
      intro v2 v3 hd a0 b0 b1 hs e
      refine bkX4_stepsTo_4 (fun z => absurd z (by omega)) (fun _ z => ⟨rfl, by rw [e, b_dep_0 z, Int.add_zero]⟩) (fun _ _ z => absurd z (by omega)) (fun _ _ _ => ⟨q_in_of (by omega) (by omega), by omega⟩) (fun _ z _ => ?_)
      have p := qv.2.2.2 v3 z b1
      rw [(q.2.2.1 v3 z b1).1]
      exact ih (v2 + 1) _ (by omega) (by omega) p.1 (by omega) (by omega) (by rw [e, b_dep_s qv.2.2.2 z b1]; omega)
  exact bkX4_stepsTo_0 (go 3001 0 v (by omega) (by decide) hv.1 hv.2 (by omega) (by omega))
theorem sp_stepOfC {Q : b_Q} (q : c_Qs m n Q) (qv : b_QV n T Q) {v : Int} (hv : 0 ≤ v ∧ v < Q.1) {w : Int} (hw : 0 ≤ w ∧ w < b_dep Q.2.2.1 v.toNat v) : q_Ev yX4_stepOf cX4_stepOf 5 (some .int) 1 0 0 [(2, 163), (0, v), (0, w)] (q_sh0, q_rb b, m) (qK (q_rb b) (fun r m' => m' = m ∧ r = Q.2.2.2 (b_anc Q.2.2.1 w.toNat v))) := by
  have q1 := q.1
  have q3 := qv.2.1
  refine q_enter (by decide +kernel) (by simp) (Nat.le_of_ble_eq_true rfl) ?_
  have dr := b_dep_r (par := Q.2.2.1) v.toNat v
  have go : ∀ (d : Nat) (v3 v4 : Int), 0 ≤ v4 → v4 + d = w → 0 ≤ v3 → v3 < Q.1 → (d : Int) < b_dep Q.2.2.1 v3.toNat v3 → b_anc Q.2.2.1 w.toNat v = b_anc Q.2.2.1 d v3 → q_At yX4_stepOf cX4_stepOf 5 (some .int) 1 0 0 (qK (q_rb b) (fun r m' => m' = m ∧ r = Q.2.2.2 (b_anc Q.2.2.1 w.toNat v))) 5 [(2, 163), (0, v), (0, w), (0, v3), (0, v4)] [] (q_sh0, q_rb b, m) := by
    intro d
    induction d with
    | zero =>
      intro v3 v4 h4 he a0 a1 hd e
      have p0 : 0 < v3 := by
        by_cases z : 0 < v3
        · exact z
        · rw [b_dep_0 (by omega)] at hd; omega
      exact bkX4_stepOf_5 (fun _ z => absurd z (by omega)) (fun _ _ z => absurd z (by omega)) (fun _ _ _ => by omega) (fun _ _ _ => ⟨rfl, by rw [e]; exact (q.2.2.1 v3 p0 a1).2⟩) (fun z => absurd z (by omega)) (fun z => absurd z (by omega)) (fun z => absurd z (by omega)) (fun z => absurd z (by omega)) (fun z => absurd z (by omega)) (fun z => absurd z (by omega)) (fun z => absurd z (by omega)) (fun z => absurd z (by omega)) (fun z => absurd z (by omega)) (fun z => absurd z (by omega))
    | succ d ih =>
      intro v3 v4 h4 he a0 a1 hd e
      have p0 : 0 < v3 := by
        by_cases z : 0 < v3
        · exact z
        · rw [b_dep_0 (by omega)] at hd; omega
      have p := qv.2.2.2 v3 p0 a1
      have ds := b_dep_s qv.2.2.2 p0 a1
      refine bkX4_stepOf_5 (fun z => absurd z (by omega)) (fun z => absurd z (by omega)) (fun z => absurd z (by omega)) (fun z => absurd z (by omega)) (fun _ z => absurd z (by omega)) (fun _ z => absurd z (by omega)) (fun _ z => absurd z (by omega)) (fun _ z => absurd z (by omega)) (fun _ _ z => absurd z (by omega)) (fun _ _ z => absurd z (by omega)) (fun _ _ z => absurd z (by omega)) (fun _ _ z => absurd z (by omega)) (fun _ _ _ => ⟨by omega, q_in_of (by omega) (by omega)⟩) (fun _ _ _ => ?_)
      rw [(q.2.2.1 v3 p0 a1).1]
      exact ih _ (v4 + 1) (by omega) (by omega) p.1 (by omega) (by omega) e
  exact bkX4_stepOf_0 (go w.toNat v 0 (by decide) (by omega) hv.1 hv.2 (by omega) rfl)
theorem c_Qs.en {m' : qm} {Q : b_Q} (q : c_Qs m n Q) (F : q_fx (fun c i => (c = 0 ∧ i = 16) ∨ c = 169) m m') : c_Qs m' n Q := by
  obtain ⟨a1, a2, a3, a4⟩ := q
  have e : ∀ i, m' 164 i = m 164 i := fun i => F _ _ (by omega)
  refine ⟨(F _ _ (by omega)).trans a1, fun i i0 i1 => ⟨(e _).trans (a2 i i0 i1).1, fun o o0 o1 => (e _).trans ((a2 i i0 i1).2 o o0 o1)⟩, fun i i0 i1 => ?_, ?_⟩
  · rw [F 165 i (by omega), F 166 i (by omega)]; exact a3 i i0 i1
  · rw [show m' 167 = m 167 from funext fun p => F _ _ (by omega)]
    exact a4.ext (fun j _ _ => c_h_en (fun k _ _ => e _))
theorem cl_payoff (t : a_TV n T) (cT : c_T m n T) {f : Int → Int} (h1 : ∀ j : Int, 0 ≤ j → j < n → m 8 j = f j) (h2 : ∀ d : Int, 0 ≤ d → d < 36 → m 12 d = f (9 + d)) (h : b_ok n T f) : q_Ev yX11_payoff cX11_payoff 4 (some .int) 6 0 0 [(2, 0)] (q_sh0, q_rb b, m) (qK (q_rb b) (fun r m' => r = b_res n T f ∧ (r < 0 → q_fx x_goC m m') ∧ (0 ≤ r → m' 0 16 = min r 10 ∧ ∀ k, 0 ≤ k → k < min r 10 → m' 169 k = b_tl n T f k) ∧ q_fx x_poC m m')) := by
  obtain ⟨sv, sr⟩ := b_srch_V t h
  have q3 := sv.2.1
  have dr := b_dep_r (par := (b_srch n T f).2.2.2.1) (b_srch n T f).1.toNat (b_srch n T f).1
  have hs5 : q_st 5 := by unfold q_st; simp
  refine q_enter (by decide +kernel) (by simp) (Nat.le_of_ble_eq_true rfl) ?_
  refine bkX11_payoff_0 (P3 := fun _ m1 r3 m3 => m3 = m1 ∧ r3 = b_res n T f) (sp_searchC t cT hs5 h1 h2 h) ?_ ?_ ?_
  · rintro r1 m1 ⟨e1, c1, f1⟩ _ z
    have e : b_res n T f = b_dep (b_srch n T f).2.2.2.1 r1.toNat r1 := by unfold b_res; rw [if_neg (by omega), e1]
    rw [e]
    exact sp_stepsToC c1 sv (by omega)
  · rintro r1 m1 ⟨e1, c1, f1⟩ _ z r3 m3 ⟨rfl, rfl⟩ _
    have e : b_res n T f = b_dep (b_srch n T f).2.2.2.1 r1.toNat r1 := by unfold b_res; rw [if_neg (by omega), e1]
    have e0 : 0 ≤ b_res n T f ∧ b_res n T f < 3000 := by rw [e, e1]; omega
    have go : ∀ (d : Nat) (k : Int) (m' : qm), k + d = min (b_res n T f) 10 → 0 ≤ k → m' 0 16 = k → (∀ j, 0 ≤ j → j < k → m' 169 j = b_tl n T f j) → c_Qs m' n (b_srch n T f).2 → q_fx x_poC m m' → q_At yX11_payoff cX11_payoff 4 (some .int) 6 0 0 (qK (q_rb b) (fun r m' => r = b_res n T f ∧ (r < 0 → q_fx x_goC m m') ∧ (0 ≤ r → m' 0 16 = min r 10 ∧ ∀ k, 0 ≤ k → k < min r 10 → m' 169 k = b_tl n T f k) ∧ q_fx x_poC m m')) 33 [(2, 0), (0, r1), (0, b_res n T f), (0, k)] [] (q_sh0, q_rb b, m') := by
      intro d
      induction d with
      | zero =>
        intro k m' hk k0 h16 ht c' F
        have fin : (b_res n T f = b_res n T f ∧ (b_res n T f < 0 → q_fx x_goC m m') ∧ (0 ≤ b_res n T f → m' 0 16 = min (b_res n T f) 10 ∧ ∀ k, 0 ≤ k → k < min (b_res n T f) 10 → m' 169 k = b_tl n T f k) ∧ q_fx x_poC m m') := ⟨rfl, fun z => by omega, fun _ => ⟨by omega, fun j j0 j1 => ht j j0 (by omega)⟩, F⟩
        exact bkX11_payoff_33 (P3 := fun _ _ => True) (fun _ => fin) (fun _ _ => fin) (fun z y => by omega) (fun z y => by omega) (fun z y => by omega) (fun z y => by omega)
      | succ d ih =>
        intro k m' hk k0 h16 ht c' F
        refine bkX11_payoff_33 (P3 := fun r m3 => m3 = m' ∧ r = b_tl n T f k) (fun z => absurd z (by omega)) (fun _ z => absurd z (by omega)) (fun _ _ => ⟨q_in_of (by omega) (by omega), q_in_of (by omega) (by omega)⟩) (fun _ _ => ?_) ?_ ?_
        · have s := sp_stepOfC (b := b) c' sv (v := r1) (by omega) (w := b_res n T f - 1 - k) ⟨by omega, by rw [← e]; omega⟩
          unfold b_tl
          rw [← e1]
          exact s
        · rintro _ _ r3 m3 ⟨rfl, e3⟩ _
          exact ⟨by omega, q_in_of (by omega) (by omega)⟩
        · rintro _ _ r3 m3 ⟨rfl, e3⟩ _
          rw [h16, e3]
          have G : q_fx (fun c i => (c = 0 ∧ i = 16) ∨ c = 169) m3 (q_up (q_up m3 169 k (b_tl n T f k)) 0 16 (k + 1)) := (q_fx.rf.up (Or.inr rfl)).up (Or.inl ⟨rfl, rfl⟩)
          refine ih (k + 1) _ (by omega) (by omega) q_up_s (fun j j0 j1 => ?_) (c'.en G) (F.tr (G.mono (fun c i z => Or.inr z)))
          rw [q_up_c (by decide)]
          by_cases ej : j = k
          · rw [ej, q_up_s]
          · rw [q_up_i ej]; exact ht j j0 (by omega)
    have G : q_fx (fun c i => (c = 0 ∧ i = 16) ∨ c = 169) m3 (q_up m3 0 16 0) := q_fx.rf.up (Or.inl ⟨rfl, rfl⟩)
    exact go (min (b_res n T f) 10).toNat 0 _ (by omega) (by decide) q_up_s (fun j j0 j1 => by omega) (c1.en G) ((f1.mono (fun c i z => Or.inl z)).tr (G.mono (fun c i z => Or.inr z)))
  · rintro r1 m1 ⟨e1, c1, f1⟩ _ z
    have e : b_res n T f = r1 := by unfold b_res; rw [if_pos (by omega), e1]
    exact ⟨e.symm, fun _ => f1, fun y => by omega, f1.mono (fun c i z => Or.inl z)⟩
end PAYF
