/-! ===== the reference's payoff ===== -/
abbrev x_srR (c i : Int) : Prop := (207 ≤ c ∧ c ≤ 209) ∨ (211 ≤ c ∧ c ≤ 217) ∨ (c = 188 ∧ (i = 17 ∨ i = 42))
abbrev x_poR (c i : Int) : Prop := x_srR c i ∨ (c = 188 ∧ i = 16) ∨ c = 199
def r_po (n : Nat) (T : a_T) (f : Int → Int) (m : qm) : Int → qm → Prop := fun r m' => r = b_res n T f ∧ (r < 0 → q_fx x_srR m m') ∧ (0 ≤ r → m' 188 16 = min r 10 ∧ ∀ k, 0 ≤ k → k < min r 10 → m' 199 k = b_tl n T f k) ∧ q_fx x_poR m m'
theorem b_anc_s {par : Int → Int} : ∀ (k : Nat) (i : Int), b_anc par (k + 1) i = par (b_anc par k i)
  | 0, _ => rfl
  | k + 1, i => by show b_anc par (k + 1) (par i) = _; rw [b_anc_s k (par i)]; rfl
section PAYT
variable {b : Int} {m : qm} {n : Nat} {T : a_T}
theorem r_Qs.fr {m' : qm} {Q : b_Q} {X : Int → Int → Prop} (q : r_Qs m n Q) (F : q_fx X m m') (hX : ∀ c i, ((211 ≤ c ∧ c ≤ 215) ∨ (c = 188 ∧ i = 42)) → ¬ X c i) : r_Qs m' n Q := by
  obtain ⟨a1, a2, a3, a4, a5⟩ := q
  refine ⟨(F _ _ (hX _ _ (Or.inr ⟨rfl, rfl⟩))).trans a1, fun i i0 i1 => ⟨fun j j0 j1 => (F _ _ (hX _ _ (Or.inl (by decide)))).trans ((a2 i i0 i1).1 j j0 j1), fun j j0 j1 => (F _ _ (hX _ _ (Or.inl (by decide)))).trans ((a2 i i0 i1).2 j j0 j1)⟩, fun i i0 i1 => ?_, fun i i0 i1 => (F _ _ (hX _ _ (Or.inl (by decide)))).trans (a4 i i0 i1), ?_⟩
  · rw [F 213 i (hX _ _ (Or.inl (by decide))), F 214 i (hX _ _ (Or.inl (by decide)))]; exact a3 i i0 i1
  · rw [show m' 215 = m 215 from funext fun p => F _ _ (hX _ _ (Or.inl (by decide)))]; exact a5
theorem r_T.po {m' : qm} (rT : r_T m n T) (F : q_fx x_srR m m') : r_T m' n T := rT.fr F (by intro c i; unfold x_srR; omega)
theorem rf_payoff (t : a_TV n T) (rT : r_T m n T) {f : Int → Int} (h1 : ∀ j : Int, 0 ≤ j → j < n → m 190 j = f j) (h2 : ∀ d : Int, 0 ≤ d → d < 36 → m 197 d = f (9 + d)) (h : b_ok n T f) : q_Ev yX12_payoff cX12_payoff 6 (some .int) 3 0 0 [(2, 188)] (q_sh0, q_rb b, m) (qK (q_rb b) (r_po n T f m)) := by
  obtain ⟨sv, sr⟩ := b_srch_V t h
  have n9 := t.1
  -- the pourings told
  have tells : ∀ (v1 v3 v : Int), 0 ≤ b_res n T f → 0 ≤ v ∧ v < 3000 → ∀ (d : Nat) (k : Int) (m' : qm), k + d = min (b_res n T f) 10 → 0 ≤ k → m' 188 16 = k → (∀ j, 0 ≤ j → j < k → m' 199 j = b_tl n T f j) → (∀ j, 0 ≤ j → j < b_res n T f → m' 217 j = b_tl n T f j) → m' 212 v = b_res n T f → q_fx x_poR m m' → q_At yX12_payoff cX12_payoff 6 (some .int) 3 0 0 (qK (q_rb b) (r_po n T f m)) 338 [(2, 188), (0, v1), (0, v), (0, v3), (0, k), (4, 0)] [] (q_sh0, q_rb b, m') := by
    intro v1 v3 v e0 hv d
    induction d with
    | zero =>
      intro k m' hk k0 h16 ht hw e12 F
      have fin : r_po n T f m (m' 212 v) m' := by
        rw [e12]
        exact ⟨rfl, fun z => by omega, fun _ => ⟨by omega, fun j j0 j1 => ht j j0 (by omega)⟩, F⟩
      exact bkX12_payoff_338 hv (fun _ => fin) (fun _ _ => fin) (fun z y => by omega) (fun z y => by omega)
    | succ d ih =>
      intro k m' hk k0 h16 ht hw e12 F
      refine bkX12_payoff_338 hv (fun z => by omega) (fun _ z => by omega) (fun _ _ => ⟨by omega, by omega, q_in_of (by omega) (by omega)⟩) (fun z _ => ?_)
      rw [h16]
      refine ih (k + 1) _ (by omega) (by omega) q_up_s (fun j j0 j1 => ?_) (fun j j0 j1 => by rw [q_up_c (by decide), q_up_c (by decide)]; exact hw j j0 j1) (by rw [q_up_c (by decide), q_up_c (by decide)]; exact e12) ((F.up (Or.inr (Or.inr rfl))).up (Or.inr (Or.inl ⟨rfl, rfl⟩)))
      rw [q_up_c (by decide)]
      by_cases e : j = k
      · rw [e, q_up_s]; exact hw k k0 (by omega)
      · rw [q_up_i e]; exact ht j j0 (by omega)
  have way : ∀ (v1 v : Int), (b_srch n T f).1 = v → 0 ≤ v → ∀ (x : Nat) (v3 v4 : Int) (m' : qm), v4 + 1 = x → v4 < b_res n T f → v3 = b_anc (b_srch n T f).2.2.2.1 (b_res n T f - 1 - v4).toNat v → 0 ≤ v3 → v3 < (b_srch n T f).2.1 → b_dep (b_srch n T f).2.2.2.1 v3.toNat v3 = x → r_Qs m' n (b_srch n T f).2 → (∀ j, v4 < j → j < b_res n T f → m' 217 j = b_tl n T f j) → q_fx x_srR m m' → q_At yX12_payoff cX12_payoff 6 (some .int) 3 0 0 (qK (q_rb b) (r_po n T f m)) 299 [(2, 188), (0, v1), (0, v), (0, v3), (0, v4), (4, 0)] [] (q_sh0, q_rb b, m') := by
    intro v1 v ev v0
    have vr : v < (b_srch n T f).2.1 := by omega
    have q3 := sv.2.1
    have er : b_res n T f = b_dep (b_srch n T f).2.2.2.1 v.toNat v := by unfold b_res; rw [if_neg (by omega), ev]
    have dr := b_dep_r (par := (b_srch n T f).2.2.2.1) v.toNat v
    intro x
    induction x with
    | zero =>
      intro v3 v4 m' hx hlt e3 a0 a1 ed q hw F
      refine bkX12_payoff_299 (fun _ => ?_) (fun z => absurd z (by omega)) (fun z => absurd z (by omega))
      refine tells v1 v3 v (by omega) (by omega) (min (b_res n T f) 10).toNat 0 _ (by omega) (by decide) q_up_s (fun j j0 j1 => by omega) (fun j j0 j1 => by rw [q_up_c (by decide)]; exact hw j (by omega) j1) (by rw [q_up_c (by decide), er]; exact q.2.2.2.1 v v0 vr) ((F.mono (fun c i z => Or.inl z)).up (Or.inr (Or.inl ⟨rfl, rfl⟩)))
    | succ x ih =>
      intro v3 v4 m' hx hlt e3 a0 a1 ed q hw F
      have p0 : 0 < v3 := by
        by_cases z : 0 < v3
        · exact z
        · rw [b_dep_0 (by omega)] at ed; omega
      have p := sv.2.2.2 v3 p0 a1
      have ds := b_dep_s sv.2.2.2 p0 a1
      obtain ⟨g1, g2⟩ := q.2.2.1 v3 p0 a1
      refine bkX12_payoff_299 (fun z => absurd z (by omega)) (fun _ => ⟨by omega, by omega, q_in_of (by omega) (by omega)⟩) (fun _ => ?_)
      rw [g1, g2]
      refine ih _ (v4 + -1) _ (by omega) (by omega) ?_ p.1 (by omega) (by omega) (q.fr (q_fx.rf.up (X := fun c _ => c = 217) rfl) (by intro c i; omega)) (fun j j0 j1 => ?_) (F.up (by unfold x_srR; omega))
      · rw [show (b_res n T f - 1 - (v4 + -1)).toNat = (b_res n T f - 1 - v4).toNat + 1 by omega, b_anc_s, ← e3]
      · by_cases e : j = v4
        · rw [e, q_up_s]
          unfold b_tl
          rw [ev, ← e3]
        · rw [q_up_i e]; exact hw j (by omega) j1
  -- the first that is paid
  have paid : ∀ (v1 : Int) (d : Nat) (i : Int) (Q : b_Q) (m' : qm), 0 ≤ i → i + d = 3001 → i ≤ Q.1 → r_Qs m' n Q → b_QV n T Q → q_fx x_srR m m' → b_srch n T f = (b_fp d i Q, Q) → q_At yX12_payoff cX12_payoff 6 (some .int) 3 0 0 (qK (q_rb b) (r_po n T f m)) 242 [(2, 188), (0, v1), (0, (-1)), (0, i), (4, 0), (4, 0)] [] (q_sh0, q_rb b, m') := by
    intro v1 d
    induction d with
    | zero => intro i Q m' i0 hi hQ q qv F e; have := qv.2.1; omega
    | succ d ih =>
      intro i Q m' i0 hi hQ q qv F e
      have q1 := q.1
      have q3 := qv.2.1
      rw [b_fp] at e
      by_cases c : i < Q.1
      · rw [if_pos c] at e
        refine bkX12_payoff_242 (P5 := fun _ m5 => r_cu m5 n (Q.2.1 i) ∧ q_fx (fun c _ => c = 207 ∨ c = 216) m' m5) (P6 := fun _ m5 r6 m6 => m6 = m5 ∧ ((r6 = 1 ∧ b_paid (Q.2.1 i)) ∨ (r6 = 0 ∧ ¬ b_paid (Q.2.1 i)))) (fun z => absurd z (by omega)) (fun z => absurd z (by omega)) (fun z => absurd z (by omega)) (fun _ z => absurd rfl z) (fun _ z => absurd rfl z) (fun _ z => absurd rfl z) (fun _ _ => sp_loadR (rT.po F).1 n9 (by omega) (q.2.1 i i0 c)) ?_ (fun _ _ _ _ _ _ _ _ _ _ _ => q_in_of (by omega) (by omega)) ?_ (fun _ _ _ _ _ _ _ _ _ _ _ => q_in_of (by omega) (by omega)) ?_
        · rintro _ _ r5 m5 ⟨c5, f5⟩ _
          exact sp_isPaidR c5 (qv.2.2.1 i i0 c)
        · rintro _ _ r5 m5 ⟨c5, f5⟩ _ r6 m6 ⟨rfl, g⟩ _ z
          have g := g.resolve_left (fun y => by omega)
          rw [q_if_neg g.2] at e
          exact ih (i + 1) Q m6 (by omega) (by omega) (by omega) (q.fr f5 (by intro c i; omega)) qv (F.tr (f5.mono (by intro c i; unfold x_srR; omega))) e
        · rintro _ _ r5 m5 ⟨c5, f5⟩ _ r6 m6 ⟨rfl, g⟩ _ z
          have g := g.resolve_right (fun y => z y.1)
          rw [q_if_pos g.2] at e
          have q' : r_Qs m6 n Q := q.fr f5 (by intro c i; omega)
          have F' : q_fx x_srR m m6 := F.tr (f5.mono (by intro c i; unfold x_srR; omega))
          have ed := q'.2.2.2.1 i i0 c
          have dr := b_dep_r (par := Q.2.2.1) i.toNat i
          have er : b_res n T f = b_dep Q.2.2.1 i.toNat i := by unfold b_res; rw [e, if_neg (show ¬ i < 0 by omega)]
          have go : q_At yX12_payoff cX12_payoff 6 (some .int) 3 0 0 (qK (q_rb b) (r_po n T f m)) 299 [(2, 188), (0, v1), (0, i), (0, i), (0, ((m6 212 i) - 1)), (4, 0)] [] (q_sh0, q_rb b, m6) := by
            refine way v1 i (by rw [e]) i0 (b_dep Q.2.2.1 i.toNat i).toNat i _ m6 (by omega) (by omega) ?_ i0 (by rw [e]; exact c) (by rw [e]; show b_dep Q.2.2.1 i.toNat i = _; omega) (by rw [e]; exact q') (fun j j0 j1 => by omega) F'
            rw [show (b_res n T f - 1 - (m6 212 i - 1)).toNat = 0 by omega]; rfl
          have ni : i ≠ -1 := by omega
          exact bkX12_payoff_242 (P5 := fun _ _ => True) (P6 := fun _ _ _ _ => True) (fun _ _ => ⟨by omega, q_in_of (by omega) (by omega)⟩) (fun _ _ => go) (fun _ z => absurd z ni) (fun _ _ _ => ⟨by omega, q_in_of (by omega) (by omega)⟩) (fun _ _ _ => go) (fun _ _ z => absurd z ni) (fun _ z => absurd z ni) (fun _ z => absurd z ni) (fun _ z => absurd z ni) (fun _ z => absurd z ni) (fun _ z => absurd z ni) (fun _ z => absurd z ni)
      · rw [if_neg c] at e
        have er : b_res n T f = -2 := by unfold b_res; rw [e, if_pos (show (-2 : Int) < 0 by decide)]
        have fin : r_po n T f m (-2) m' := ⟨er.symm, fun _ => F, fun z => by omega, F.mono (fun c i z => Or.inl z)⟩
        exact bkX12_payoff_242 (P5 := fun _ _ => True) (P6 := fun _ _ _ _ => True) (fun _ z => absurd rfl z) (fun _ z => absurd rfl z) (fun _ _ => fin) (fun z => absurd z (by omega)) (fun z => absurd z (by omega)) (fun z => absurd z (by omega)) (fun z => absurd z (by omega)) (fun z => absurd z (by omega)) (fun z => absurd z (by omega)) (fun z => absurd z (by omega)) (fun z => absurd z (by omega)) (fun z => absurd z (by omega))
  -- too many
  have out0 : ∀ (i : Int), 0 ≤ i ∧ i < 3000 → b_res n T f = -3 → ∀ (d : Nat) (x : Int) (m' : qm), 0 ≤ x → x + d = n → q_fx x_srR m m' → q_At yX12_payoff cX12_payoff 6 (some .int) 3 0 0 (qK (q_rb b) (r_po n T f m)) 87 [(2, 188), (0, 0), (0, i), (0, x), (4, 0), (4, 0)] [] (q_sh0, q_rb b, m') := by
    intro i hi er d
    induction d with
    | zero =>
      intro x m' x0 hx F
      have en : m' 188 0 = n := (rT.po F).1
      have fin : r_po n T f m (-3) m' := ⟨er.symm, fun _ => F, fun z => by omega, F.mono (fun c i z => Or.inl z)⟩
      refine bkX12_payoff_87 (fun _ => q_in_of (by omega) (by omega)) (fun _ => ?_) (fun z => absurd z (by omega))
      exact bkX12_payoff_73 (fun _ z => absurd rfl z) (fun _ _ => fin) (fun _ _ z => absurd rfl z) (fun _ _ _ => fin) (fun _ z => absurd rfl z)
    | succ d ih =>
      intro x m' x0 hx F
      have en : m' 188 0 = n := (rT.po F).1
      refine bkX12_payoff_87 (fun z => absurd z (by omega)) (fun z => absurd z (by omega)) (fun _ => ?_)
      exact bkX12_payoff_98 (P3 := fun _ _ => True) (P5 := fun _ _ _ _ => True) (P7 := fun _ _ _ _ _ _ => True) (fun z => absurd z (by omega)) (fun z => absurd z (by omega)) (fun _ _ => q_in_of (by omega) (by omega)) (fun _ _ => ih (x + 1) m' (by omega) (by omega) F) (fun _ z => absurd rfl z) (fun _ z => absurd rfl z) (fun _ z => absurd rfl z) (fun _ z => absurd rfl z) (fun _ z => absurd rfl z) (fun _ z => absurd rfl z) (fun _ z => absurd rfl z) (fun _ z => absurd rfl z) (fun _ z => absurd rfl z) (fun _ z => absurd rfl z)
  obtain ⟨R, hR⟩ : ∃ R, R = b_I n T 3001 0 (b_Q0 f) := ⟨_, rfl⟩
  have res3 : R.1 = 0 → b_res n T f = -3 := fun z => by
    have es : b_srch n T f = (-3, R.2) := by unfold b_srch; rw [← hR, if_pos z]
    unfold b_res; rw [es, if_pos (show (-3 : Int) < 0 by decide)]
  have inner : ∀ (i : Int), 0 ≤ i ∧ i < 3000 → ∀ (d : Nat) (x y : Int) (Q : b_Q) (m' : qm), 0 ≤ x ∧ x < n → 0 ≤ y → y + d = n → i < Q.1 → r_Qs m' n Q → b_QV n T Q → q_fx x_srR m m' → ((b_B n T i x d y Q).1 = 0 → R.1 = 0) → ((b_B n T i x d y Q).1 ≠ 0 → ∀ m'', r_Qs m'' n (b_B n T i x d y Q).2 → b_QV n T (b_B n T i x d y Q).2 → q_fx x_srR m m'' → q_At yX12_payoff cX12_payoff 6 (some .int) 3 0 0 (qK (q_rb b) (r_po n T f m)) 87 [(2, 188), (0, 1), (0, i), (0, (x + 1)), (4, 0), (4, 0)] [] (q_sh0, q_rb b, m'')) → q_At yX12_payoff cX12_payoff 6 (some .int) 3 0 0 (qK (q_rb b) (r_po n T f m)) 98 [(2, 188), (0, 1), (0, i), (0, x), (0, y), (4, 0)] [] (q_sh0, q_rb b, m') := by
    intro i hi d
    have n1 : (1 : Int) ≠ 0 := by decide
    induction d with
    | zero =>
      intro x y Q m' hx y0 hy hiQ q qv F k0 k1
      have en : m' 188 0 = n := (rT.po F).1
      exact bkX12_payoff_98 (P3 := fun _ _ => True) (P5 := fun _ _ _ _ => True) (P7 := fun _ _ _ _ _ _ => True) (fun _ => q_in_of (by omega) (by omega)) (fun _ => k1 n1 m' q qv F) (fun z => absurd z (by omega)) (fun z => absurd z (by omega)) (fun z => absurd z (by omega)) (fun z => absurd z (by omega)) (fun z => absurd z (by omega)) (fun z => absurd z (by omega)) (fun z => absurd z (by omega)) (fun z => absurd z (by omega)) (fun z => absurd z (by omega)) (fun z => absurd z (by omega)) (fun z => absurd z (by omega)) (fun z => absurd z (by omega))
    | succ d ih =>
      intro x y Q m' hx y0 hy hiQ q qv F k0 k1
      have en : m' 188 0 = n := (rT.po F).1
      have hy2 : 0 ≤ y ∧ y < n := by omega
      have oi := qv.2.2.1 i hi.1 hiQ
      have q3 := qv.2.1
      have one := qv.one t ⟨hi.1, hiQ⟩ hx hy2
      have tx := t.2 x hx.1 hx.2
      have ty := t.2 y hy2.1 hy2.2
      rw [b_B] at k0 k1
      have step : ∀ m5, r_Qs m5 n (b_one n T i x y Q).2 → q_fx x_srR m m5 → (b_one n T i x y Q).1 ≠ 0 → q_At yX12_payoff cX12_payoff 6 (some .int) 3 0 0 (qK (q_rb b) (r_po n T f m)) 98 [(2, 188), (0, 1), (0, i), (0, x), (0, (y + 1)), (4, 0)] [] (q_sh0, q_rb b, m5) := by
        intro m5 c5 F5 z
        rw [if_neg z] at k0 k1
        exact ih x (y + 1) _ m5 hx (by omega) (by omega) (by have := one.2.1; omega) c5 one.1 F5 k0 k1
      have same : b_due T (Q.2.1 i) x y = 0 → b_one n T i x y Q = (1, Q) := fun z => by unfold b_one; rw [if_neg (by omega)]
      have d0 : 0 ≤ b_due T (Q.2.1 i) x y := by
        have a := oi.1 x hx.1 hx.2
        have c := oi.1 y hy2.1 hy2.2
        have g := oi.2.1 (6 * T.2.1 x + T.2.1 y) (by omega) (by omega)
        unfold b_due; omega
      have dxx : x = y → b_due T (Q.2.1 i) x y = 0 := fun e => by
        have z := oi.2.2 (T.2.1 x) (by omega) (by omega)
        have a := oi.1 x hx.1 hx.2
        rw [← e]
        unfold b_due
        rw [show 9 + (6 * T.2.1 x + T.2.1 x) = 9 + 7 * T.2.1 x by omega, z]
        omega
      have fq : ∀ m5, q_fx (fun c _ => c = 207 ∨ c = 216) m' m5 → r_Qs m5 n Q ∧ q_fx x_srR m m5 := fun m5 f5 => ⟨q.fr f5 (by intro c i; omega), F.tr (f5.mono (by intro c i; unfold x_srR; omega))⟩
      refine bkX12_payoff_98 (P3 := fun _ m3 => r_cu m3 n (Q.2.1 i) ∧ q_fx (fun c _ => c = 207 ∨ c = 216) m' m3) (P5 := fun _ m3 r5 m5 => m5 = m3 ∧ r5 = b_due T (Q.2.1 i) x y) (P7 := fun _ m3 _ _ r7 m7 => r7 = (b_add n Q (b_nx T (Q.2.1 i) x y (b_due T (Q.2.1 i) x y)) i (1000 * x + 100 * y + b_due T (Q.2.1 i) x y)).1 ∧ r_Qs m7 n (b_add n Q (b_nx T (Q.2.1 i) x y (b_due T (Q.2.1 i) x y)) i (1000 * x + 100 * y + b_due T (Q.2.1 i) x y)).2 ∧ q_fx x_srR m m7) (fun z => absurd z (by omega)) (fun z => absurd z (by omega)) (fun _ z => absurd z n1) (fun _ z => absurd z n1) (fun _ _ => sp_loadR en n9 hi (q.2.1 i hi.1 hiQ)) ?_ ?_ ?_ (fun _ _ _ _ _ _ _ _ _ _ _ _ _ _ _ _ => q_in_of (by omega) (by omega)) ?_ (fun _ _ _ _ _ _ _ _ _ _ _ _ => q_in_of (by omega) (by omega)) ?_ (fun _ _ _ _ _ _ _ => q_in_of (by omega) (by omega)) ?_
      · rintro _ _ r3 m3 ⟨c3, f3⟩ _ ne
        exact sp_owedR t (rT.po (fq m3 f3).2) c3 oi hx hy2
      · rintro _ _ r3 m3 ⟨c3, f3⟩ _ ne r5 m5 ⟨rfl, e5⟩ _ z
        obtain ⟨p1, p2, p3, p4, p5⟩ := b_due_p t oi hx hy2 (by omega)
        have ex : m5 192 x = T.2.1 x := (rT.po (fq m5 f3).2).2.2.1 x hx.1 hx.2
        have ey : m5 192 y = T.2.1 y := (rT.po (fq m5 f3).2).2.2.1 y hy2.1 hy2.2
        have lx := c3.1 x hx.1 hx.2
        have ly := c3.1 y hy2.1 hy2.2
        have fx := oi.1 x hx.1 hx.2
        have fy := oi.1 y hy2.1 hy2.2
        have fd := oi.2.1 (6 * T.2.1 x + T.2.1 y) (by omega) (by omega)
        rw [ex, ey, q_up_i (Ne.symm ne), c3.2 _ (by omega) (by omega), lx, ly]
        exact ⟨by omega, q_in_of (by omega) (by omega), by omega, q_in_of (by omega) (by omega), q_in_of (by omega) (by omega), q_in_of (by omega) (by omega), by omega, q_in_of (by omega) (by omega), q_in_of (by omega) (by omega), q_in_of (by omega) (by omega), q_in_of (by omega) (by omega), q_in_of (by omega) (by omega)⟩
      · rintro _ _ r3 m3 ⟨c3, f3⟩ _ ne r5 m5 ⟨rfl, rfl⟩ _ z
        have hw : 0 < b_due T (Q.2.1 i) x y := by omega
        have ex : m5 192 x = T.2.1 x := (rT.po (fq m5 f3).2).2.2.1 x hx.1 hx.2
        have ey : m5 192 y = T.2.1 y := (rT.po (fq m5 f3).2).2.2.1 y hy2.1 hy2.2
        have lx := c3.1 x hx.1 hx.2
        have ly := c3.1 y hy2.1 hy2.2
        rw [ex, ey, q_up_i (Ne.symm ne), c3.2 _ (by omega) (by omega), lx, ly]
        have G : q_fx (fun c _ => c = 207 ∨ c = 216) m' (q_up (q_up (q_up m5 207 x (Q.2.1 i x - b_due T (Q.2.1 i) x y)) 207 y (Q.2.1 i y + b_due T (Q.2.1 i) x y)) 216 (6 * T.2.1 x + T.2.1 y) (Q.2.1 i (9 + (6 * T.2.1 x + T.2.1 y)) - b_due T (Q.2.1 i) x y)) := ((f3.up (Or.inl rfl)).up (Or.inl rfl)).up (Or.inr rfl)
        have cu : r_cu (q_up (q_up (q_up m5 207 x (Q.2.1 i x - b_due T (Q.2.1 i) x y)) 207 y (Q.2.1 i y + b_due T (Q.2.1 i) x y)) 216 (6 * T.2.1 x + T.2.1 y) (Q.2.1 i (9 + (6 * T.2.1 x + T.2.1 y)) - b_due T (Q.2.1 i) x y)) n (b_nx T (Q.2.1 i) x y (b_due T (Q.2.1 i) x y)) := by
          refine ⟨fun j j0 j1 => ?_, fun e e0 e1 => ?_⟩
          · rw [q_up_c (by decide)]
            unfold b_nx
            by_cases j2 : j = x
            · rw [if_pos j2, q_up_i (by omega), j2, q_up_s]
            · rw [if_neg j2]
              by_cases j3 : j = y
              · rw [if_pos j3, j3, q_up_s]
              · rw [if_neg j3, if_neg (by omega), q_up_i j3, q_up_i j2]; exact c3.1 j j0 j1
          · unfold b_nx
            rw [if_neg (by omega), if_neg (by omega)]
            by_cases j2 : e = 6 * T.2.1 x + T.2.1 y
            · rw [if_pos (by omega), j2, q_up_s]
            · rw [if_neg (by omega), q_up_i j2, q_up_c (by decide), q_up_c (by decide)]; exact c3.2 e e0 e1
        obtain ⟨g1, g2⟩ := fq _ G
        refine (sp_addR (T := T) (rT.po g2).1 n9 g1 qv.all qv.2.2.2 cu (Or.inr ⟨hi.1, hiQ, rfl⟩)).post (fun r7 m7 y7 => ⟨y7.1, y7.2.1, g2.tr (y7.2.2.mono (by intro c i; unfold x_adR x_srR; omega))⟩)
      · rintro _ _ r3 m3 ⟨c3, f3⟩ _ ne r5 m5 ⟨rfl, rfl⟩ _ z r7 m7 ⟨e7, c7, f7⟩ _
        have hw : 0 < b_due T (Q.2.1 i) x y := by omega
        have e1 : b_one n T i x y Q = b_add n Q (b_nx T (Q.2.1 i) x y (b_due T (Q.2.1 i) x y)) i (1000 * x + 100 * y + b_due T (Q.2.1 i) x y) := by unfold b_one; rw [if_pos hw]
        rw [← e1] at e7 c7
        rcases one.2.2.1 with o | o
        · rw [if_pos o] at k0
          rw [e7, o]
          have er := res3 (k0 o)
          have en7 : m7 188 0 = n := (rT.po f7).1
          have ex : q_At yX12_payoff cX12_payoff 6 (some .int) 3 0 0 (qK (q_rb b) (r_po n T f m)) 87 [(2, 188), (0, 0), (0, i), (0, (x + 1)), (4, 0), (4, 0)] [] (q_sh0, q_rb b, m7) := out0 i hi er (n - (x + 1).toNat) (x + 1) m7 (by omega) (by omega) f7
          exact bkX12_payoff_98 (P3 := fun _ _ => True) (P5 := fun _ _ _ _ => True) (P7 := fun _ _ _ _ _ _ => True) (fun _ => q_in_of (by omega) (by omega)) (fun _ => ex) (fun _ _ => q_in_of (by omega) (by omega)) (fun _ _ => ex) (fun _ z => absurd rfl z) (fun _ z => absurd rfl z) (fun _ z => absurd rfl z) (fun _ z => absurd rfl z) (fun _ z => absurd rfl z) (fun _ z => absurd rfl z) (fun _ z => absurd rfl z) (fun _ z => absurd rfl z) (fun _ z => absurd rfl z) (fun _ z => absurd rfl z)
        · rw [e7, o]
          exact step m7 c7 f7 (by rw [o]; decide)
      · rintro _ _ r3 m3 ⟨c3, f3⟩ _ ne r5 m5 ⟨rfl, e5⟩ _ z
        obtain ⟨g1, g2⟩ := fq m5 f3
        have es := same (by omega)
        exact step m5 (by rw [es]; exact g1) g2 (by rw [es]; exact n1)
      · rintro _ _ r3 m3 ⟨c3, f3⟩ _ e
        obtain ⟨g1, g2⟩ := fq m3 f3
        have es := same (dxx e)
        exact step m3 (by rw [es]; exact g1) g2 (by rw [es]; exact n1)
  have outer : ∀ (i : Int), 0 ≤ i ∧ i < 3000 → ∀ (d : Nat) (x : Int) (Q : b_Q) (m' : qm), 0 ≤ x → x + d = n → i < Q.1 → r_Qs m' n Q → b_QV n T Q → q_fx x_srR m m' → ((b_A n T i d x Q).1 = 0 → R.1 = 0) → ((b_A n T i d x Q).1 ≠ 0 → ∀ m'', r_Qs m'' n (b_A n T i d x Q).2 → b_QV n T (b_A n T i d x Q).2 → q_fx x_srR m m'' → q_At yX12_payoff cX12_payoff 6 (some .int) 3 0 0 (qK (q_rb b) (r_po n T f m)) 73 [(2, 188), (0, 1), (0, (i + 1)), (4, 0), (4, 0), (4, 0)] [] (q_sh0, q_rb b, m'')) → q_At yX12_payoff cX12_payoff 6 (some .int) 3 0 0 (qK (q_rb b) (r_po n T f m)) 87 [(2, 188), (0, 1), (0, i), (0, x), (4, 0), (4, 0)] [] (q_sh0, q_rb b, m') := by
    intro i hi d
    have n1 : (1 : Int) ≠ 0 := by decide
    induction d with
    | zero =>
      intro x Q m' x0 hx hiQ q qv F k0 k1
      have en : m' 188 0 = n := (rT.po F).1
      exact bkX12_payoff_87 (fun _ => q_in_of (by omega) (by omega)) (fun _ => k1 n1 m' q qv F) (fun z => absurd z (by omega))
    | succ d ih =>
      intro x Q m' x0 hx hiQ q qv F k0 k1
      have en : m' 188 0 = n := (rT.po F).1
      rw [b_A] at k0 k1
      have mo := b_QV.B t (i := i) (x := x) ⟨x0, by omega⟩ n 0 Q qv ⟨hi.1, hiQ⟩ (by decide) (by omega)
      refine bkX12_payoff_87 (fun z => absurd z (by omega)) (fun z => absurd z (by omega)) (fun _ => ?_)
      refine inner i hi n x 0 Q m' (by omega) (by decide) (by omega) hiQ q qv F (fun z0 => by rw [if_pos z0] at k0; exact k0 z0) (fun z0 m'' c'' v'' F'' => ?_)
      rw [if_neg z0] at k0 k1
      exact ih (x + 1) _ m'' (by omega) (by omega) (by have := mo.2; omega) c'' v'' F'' k0 k1
  have main : ∀ (d : Nat) (i : Int) (Q : b_Q) (m' : qm), 0 ≤ i → i + d = 3001 → i ≤ Q.1 → r_Qs m' n Q → b_QV n T Q → q_fx x_srR m m' → R = b_I n T d i Q → q_At yX12_payoff cX12_payoff 6 (some .int) 3 0 0 (qK (q_rb b) (r_po n T f m)) 73 [(2, 188), (0, 1), (0, i), (4, 0), (4, 0), (4, 0)] [] (q_sh0, q_rb b, m') := by
    intro d
    have n1 : (1 : Int) ≠ 0 := by decide
    induction d with
    | zero => intro i Q m' i0 hi hQ q qv F e; have := qv.2.1; omega
    | succ d ih =>
      intro i Q m' i0 hi hQ q qv F e
      have q1 := q.1
      have q3 := qv.2.1
      have q0 := qv.1
      rw [b_I] at e
      by_cases c : i < Q.1
      · rw [if_pos c] at e
        have mo := b_QV.A t (i := i) n 0 Q qv ⟨i0, c⟩ (by decide) (by omega)
        refine bkX12_payoff_73 (fun z => absurd z (by omega)) (fun z => absurd z (by omega)) (fun _ z => absurd z n1) (fun _ z => absurd z n1) (fun _ _ => ?_)
        refine outer i (by omega) n 0 Q m' (by decide) (by omega) c q qv F (fun z0 => by rw [e, if_pos z0]; exact z0) (fun z0 m'' c'' v'' F'' => ?_)
        rw [if_neg z0] at e
        exact ih (i + 1) _ m'' (by omega) (by omega) (by have := mo.2; omega) c'' v'' F'' e
      · rw [if_neg c] at e
        have es : b_srch n T f = (b_fp 3001 0 Q, Q) := by unfold b_srch; rw [← hR, e, if_neg (show ¬ (1 : Int) = 0 by decide)]
        exact bkX12_payoff_73 (fun _ _ => paid 1 3001 0 Q m' (by decide) (by decide) (by omega) q qv F es) (fun _ z => absurd z n1) (fun z => absurd z (by omega)) (fun z => absurd z (by omega)) (fun z => absurd z (by omega))
  refine q_enter (by decide +kernel) (by simp) (Nat.le_of_ble_eq_true rfl) ?_
  have en : m 188 0 = n := rT.1
  have owes : ∀ (d : Nat) (j : Int) (m' : qm), 0 ≤ j → j + d = 36 → (∀ i : Int, 0 ≤ i → i < n → m' 207 i = f i) → (∀ i : Int, 0 ≤ i → i < j → m' 216 i = f (9 + i)) → m' 188 42 = 0 → (∀ p, 0 ≤ p → p < 8192 → m' 215 p = 0) → q_fx x_srR m m' → q_At yX12_payoff cX12_payoff 6 (some .int) 3 0 0 (qK (q_rb b) (r_po n T f m)) 38 [(2, 188), (0, j), (4, 0), (4, 0), (4, 0), (4, 0)] [] (q_sh0, q_rb b, m') := by
    intro d
    induction d with
    | zero =>
      intro j m' j0 hj a1 a2 a3 a4 F
      have z0 : r_Qs m' n b_z := ⟨a3, fun i i0 i1 => by have i1 : i < 0 := i1; omega, fun i i0 i1 => by have i1 : i < 0 := i1; omega, fun i i0 i1 => by have i1 : i < 0 := i1; omega, b_H_z (by decide) a4⟩
      refine bkX12_payoff_38 (fun _ => sp_addR (T := T) (p := 0) (rT.po F).1 n9 z0 ⟨by decide, by decide, fun i i0 i1 => by have i1 : i < 0 := i1; omega⟩ (fun i i0 i1 => by have i1 : i < 0 := i1; omega) (N := f) ⟨a1, fun i i0 i1 => a2 i i0 (by omega)⟩ (Or.inl ⟨rfl, rfl⟩)) ?_ (fun z => absurd z (by omega)) (fun z => absurd z (by omega))
      rintro _ r2 m2 ⟨e2, c2, f2⟩ _
      rw [b_add_z] at c2
      exact main 3001 0 (b_Q0 f) m2 (by decide) (by decide) (by show (0 : Int) ≤ 0 + 1; decide) c2 (b_Q0_V h) (F.tr (f2.mono (by intro c i; unfold x_adR x_srR; omega))) hR
    | succ d ih =>
      intro j m' j0 hj a1 a2 a3 a4 F
      refine bkX12_payoff_38 (P2 := fun _ _ => True) (fun z => absurd z (by omega)) (fun z => absurd z (by omega)) (fun _ => ⟨by omega, q_in_of (by omega) (by omega)⟩) (fun _ => ?_)
      refine ih (j + 1) _ (by omega) (by omega) (fun i i0 i1 => by rw [q_up_c (by decide)]; exact a1 i i0 i1) (fun i i0 i1 => ?_) (by rw [q_up_c (by decide)]; exact a3) (fun p p0 p1 => by rw [q_up_c (by decide)]; exact a4 p p0 p1) (F.up (by unfold x_srR; omega))
      by_cases e : i = j
      · rw [e, q_up_s, F 197 j (by unfold x_srR; omega)]; exact h2 j j0 (by omega)
      · rw [q_up_i e]; exact a2 i i0 (by omega)
  have clear : ∀ (d : Nat) (j : Int) (m' : qm), 0 ≤ j → j + d = 8192 → (∀ p, 0 ≤ p → p < j → m' 215 p = 0) → q_fx x_srR m m' → q_At yX12_payoff cX12_payoff 6 (some .int) 3 0 0 (qK (q_rb b) (r_po n T f m)) 7 [(2, 188), (0, j), (4, 0), (4, 0), (4, 0), (4, 0)] [] (q_sh0, q_rb b, m') := by
    intro d
    induction d with
    | zero =>
      intro j m' j0 hj a4 F
      refine bkX12_payoff_7 (fun _ => sp_begin n (by rw [q_up_i (by decide)]; exact (rT.po F).1) n9) ?_ (fun z => absurd z (by omega)) (fun z => absurd z (by omega))
      rintro _ r2 m2 ⟨g1, g2⟩ _
      have F2 : q_fx x_srR m m2 := (F.up (by unfold x_srR; omega)).tr (g2.fx (by intro c hc i; simp at hc; unfold x_srR; omega))
      refine owes 36 0 m2 (by decide) (by decide) (fun i i0 i1 => ?_) (fun i i0 i1 => by omega) ?_ (fun p p0 p1 => ?_) F2
      · rw [(g1 i i0 i1).1, q_up_c (by decide), F 190 i (by unfold x_srR; omega)]; exact h1 i i0 i1
      · rw [g2 188 (by simp), q_up_s]
      · rw [g2 215 (by simp), q_up_c (by decide)]; exact a4 p p0 (by omega)
    | succ d ih =>
      intro j m' j0 hj a4 F
      refine bkX12_payoff_7 (P2 := fun _ _ => True) (fun z => absurd z (by omega)) (fun z => absurd z (by omega)) (fun _ => ⟨by omega, q_in_of (by omega) (by omega)⟩) (fun _ => ?_)
      refine ih (j + 1) _ (by omega) (by omega) (fun p p0 p1 => ?_) (F.up (by unfold x_srR; omega))
      by_cases e : p = j
      · rw [e, q_up_s]
      · rw [q_up_i e]; exact a4 p p0 (by omega)
  exact bkX12_payoff_0 (clear 8192 0 _ (by decide) (by decide) (fun p p0 p1 => by omega) (q_fx.rf.up (by unfold x_srR; omega)))
end PAYT
