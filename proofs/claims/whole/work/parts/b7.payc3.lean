/-! ===== the class's search ===== -/
theorem b_orpk {f : Int → Int} {kk j : Nat} (hkk : kk * (j + 1) ≤ 62) (hf : ∀ i : Int, 0 ≤ i → i < (j + 1 : Nat) → 0 ≤ f i ∧ f i < ((2 ^ kk : Nat) : Int)) : q_olor ((b_pk (2 ^ kk) f j : Nat) : Int) (q_olshl (f j) ((kk * j : Nat) : Int)) = ((b_pk (2 ^ kk) f (j + 1) : Nat) : Int) := by
  have a := b_pk_lt (f := f) (c := 2 ^ kk) (Nat.pow_pos (by decide)) (j + 1) hf
  have a0 := b_pk_lt (f := f) (c := 2 ^ kk) (Nat.pow_pos (by decide)) j (fun i i0 i1 => hf i i0 (by omega))
  rw [← Nat.pow_mul] at a a0
  have p : 2 ^ (kk * (j + 1)) ≤ 2 ^ 62 := Nat.pow_le_pow_right (by decide) hkk
  have e62 : (2 : Nat) ^ 62 = 4611686018427387904 := by decide
  have hj := hf j (by omega) (by omega)
  have e : b_pk (2 ^ kk) f (j + 1) = b_pk (2 ^ kk) f j + (f j).toNat * 2 ^ (kk * j) := by show _ + _ * (2 ^ kk) ^ j = _; rw [← Nat.pow_mul]
  have q31 : kk ≤ 62 := Nat.le_trans (Nat.le_mul_of_pos_right kk (by omega)) hkk
  have pk : 2 ^ kk ≤ 2 ^ 62 := Nat.pow_le_pow_right (by decide) q31
  have hs : kk * j < 64 := by rw [Nat.mul_succ] at hkk; omega
  rw [b_shl hs hj.1 (by omega) (by omega), b_or (by omega) hj.1 (by rw [Int.toNat_natCast]; exact a0) (by rw [Int.toNat_natCast]; omega), Int.toNat_natCast, e, Nat.add_comm]
theorem b_H.ext {tab : Int → Int} {M : Int} {h h' : Int → Int} {cnt : Int} (H : b_H tab M h cnt) (e : ∀ j, 0 ≤ j → j < cnt → h' j = h j) : b_H tab M h' cnt := ⟨H.1, H.2.1, fun j j0 j1 => by rw [e j j0 j1]; exact H.2.2 j j0 j1⟩
def b_paid (f : Int → Int) : Prop := ∀ d : Int, 0 ≤ d → d < 36 → f (9 + d) = 0
theorem b_pk_zero {c : Nat} {f : Int → Int} (hc : 0 < c) {k : Nat} (hf : ∀ j : Int, 0 ≤ j → j < k → 0 ≤ f j ∧ f j < c) : b_pk c f k = 0 ↔ ∀ j : Int, 0 ≤ j → j < k → f j = 0 := by
  have z : b_pk c (fun _ => 0) k = 0 := by
    induction k with
    | zero => rfl
    | succ k ih => show b_pk c (fun _ => 0) k + (0 : Int).toNat * c ^ k = 0; rw [ih (fun j a b => hf j a (by omega))]; simp
  have := b_pk_inj hc hf (g := fun _ => 0) (fun j _ _ => ⟨by omega, by show (0 : Int) < c; omega⟩)
  rw [z] at this
  exact this
abbrev x_goC (c i : Int) : Prop := c = 164 ∨ x_enC c i
section PAYE
variable {b : Int} {m : qm} {n : Nat} {T : a_T}
theorem sp_fill7 : q_Ev yJ7_fill_53178 cJ7_fill_53178 4 none 1 0 0 [(2, 167), (0, 0)] (q_sh0, q_rb b, m) (qK (q_rb b) (fun _ m' => (∀ p, 0 ≤ p → p < 4096 → m' 167 p = 0) ∧ q_fx (fun c _ => c = 167) m m')) := by
  refine q_enter (by decide +kernel) (by simp) (Nat.le_of_ble_eq_true rfl) ?_
  have go : ∀ (d : Nat) (i : Int) (m' : qm), 0 ≤ i → i + d = 4096 → (∀ p, 0 ≤ p → p < i → m' 167 p = 0) → q_fx (fun c _ => c = 167) m m' → q_At yJ7_fill_53178 cJ7_fill_53178 4 none 1 0 0 (qK (q_rb b) (fun _ m' => (∀ p, 0 ≤ p → p < 4096 → m' 167 p = 0) ∧ q_fx (fun c _ => c = 167) m m')) 5 [(2, 167), (0, 0), (0, i), (0, 4096)] [] (q_sh0, q_rb b, m') := by
    intro d
    induction d with
    | zero =>
      intro i m' i0 hi hz F
      exact bkJ7b_fill_5 (fun _ => ⟨fun p p0 p1 => hz p p0 (by omega), F⟩) (fun z => absurd z (by omega)) (fun z => absurd z (by omega))
    | succ d ih =>
      intro i m' i0 hi hz F
      refine bkJ7b_fill_5 (fun z => absurd z (by omega)) (fun _ => ⟨by omega, q_in_of (by omega) (by omega)⟩) (fun _ => ?_)
      refine ih (i + 1) _ (by omega) (by omega) (fun p p0 p1 => ?_) (F.up rfl)
      by_cases e : p = i
      · rw [e, q_up_s]
      · rw [q_up_i e]; exact hz p p0 (by omega)
  exact bkJ7b_fill_0 (go 4096 0 m (by decide) (by decide) (fun p a b => by omega) q_fx.rf)
theorem sp_writeStartC (t : a_TV n T) (cT : c_T m n T) {s : Int} (hs : q_st s) {f : Int → Int} (h1 : ∀ j : Int, 0 ≤ j → j < n → m (s + 3) j = f j) (h2 : ∀ d : Int, 0 ≤ d → d < 36 → m (s + 7) d = f (9 + d)) (h : b_ok n T f) : q_Ev yX4_writeStart cX4_writeStart 8 none 1 0 0 [(2, 163), (2, s)] (q_sh0, q_rb b, m) (qK (q_rb b) (fun _ m' => c_sT m' 0 n f ∧ q_fx (fun c _ => c = 164) m m')) := by
  have n9 := t.1
  have s7 : s + 7 ≠ 164 := by unfold q_st at hs; simp at hs; omega
  have en : m 1 3 = n := cT.1
  refine q_enter (by decide +kernel) (by simp) (Nat.le_of_ble_eq_true rfl) ?_
  refine bkX4_writeStart_0 hs ?_
  have go3 : ∀ (d j : Nat) (o : Nat) (v2 : Int) (m' : qm), j + d = 6 → o < 6 → q_fx (fun c _ => c = 164) m m' → (q_At yX4_writeStart cX4_writeStart 8 none 1 0 0 (qK (q_rb b) (fun _ m' => c_sT m' 0 n f ∧ q_fx (fun c _ => c = 164) m m')) 50 [(2, 163), (2, s), (1, v2), (4, 0), (0, ((o : Int) + 1)), (4, 0), (4, 0), (4, 0)] [] (q_sh0, q_rb b, (q_up m' 164 (1 + (o : Int)) ((b_pk 1024 (fun t => f (9 + (6 * (o : Int) + t))) 6 : Nat) : Int)))) → q_At yX4_writeStart cX4_writeStart 8 none 1 0 0 (qK (q_rb b) (fun _ m' => c_sT m' 0 n f ∧ q_fx (fun c _ => c = 164) m m')) 63 [(2, 163), (2, s), (1, v2), (4, 0), (0, (o : Int)), (1, ((b_pk 1024 (fun t => f (9 + (6 * (o : Int) + t))) j : Nat) : Int)), (4, 0), (0, (j : Int))] [] (q_sh0, q_rb b, m') := by
    intro d
    induction d with
    | zero =>
      intro j o v2 m' hj ho F k
      obtain rfl : j = 6 := by omega
      exact bkX4_writeStart_63 hs (fun _ => ⟨q_in_of (by omega) (by omega), by omega, q_in_of (by omega) (by omega)⟩) (fun _ => k) (fun z => absurd z (by omega)) (fun z => absurd z (by omega))
    | succ d ih =>
      intro j o v2 m' hj ho F k
      refine bkX4_writeStart_63 hs (fun z => absurd z (by omega)) (fun z => absurd z (by omega)) (fun _ => ⟨q_in_of (by omega) (by omega), q_in_of (by omega) (by omega), by omega, q_in_of (by omega) (by omega), q_in_of (by omega) (by omega)⟩) (fun _ => ?_)
      have q := b_orpk (f := fun t => f (9 + (6 * (o : Int) + t))) (kk := 10) (j := j) (by omega) (fun i i0 i1 => b_d1024 h (o := (o : Int)) (by omega) i i0 (by omega))
      rw [show (2 : Nat) ^ 10 = 1024 from rfl, show ((10 * j : Nat) : Int) = 10 * (j : Int) by omega] at q
      rw [F (s + 7) _ s7, h2 _ (by omega) (by omega), show (9 : Int) + ((o : Int) * 6 + j) = 9 + (6 * (o : Int) + j) by omega, q]
      exact ih (j + 1) o v2 m' (by omega) ho F k
  have go2 : ∀ (d o : Nat) (v2 : Int) (m' : qm), o + d = 6 → q_fx (fun c _ => c = 164) m m' → m' 164 0 = ((b_pk 64 f n : Nat) : Int) → (∀ o' : Int, 0 ≤ o' → o' < o → m' 164 (1 + o') = ((b_pk 1024 (fun t => f (9 + (6 * o' + t))) 6 : Nat) : Int)) → q_At yX4_writeStart cX4_writeStart 8 none 1 0 0 (qK (q_rb b) (fun _ m' => c_sT m' 0 n f ∧ q_fx (fun c _ => c = 164) m m')) 50 [(2, 163), (2, s), (1, v2), (4, 0), (0, (o : Int)), (4, 0), (4, 0), (4, 0)] [] (q_sh0, q_rb b, m') := by
    intro d
    induction d with
    | zero =>
      intro o v2 m' ho F h0 hr
      refine bkX4_writeStart_50 hs (fun _ => ⟨⟨h0, fun o' a c => ?_⟩, F⟩) (fun z => absurd z (by omega))
      rw [show (0 : Int) * 7 + 1 + o' = 1 + o' by omega]
      exact hr o' a (by omega)
    | succ d ih =>
      intro o v2 m' ho F h0 hr
      refine bkX4_writeStart_50 hs (fun z => absurd z (by omega)) (fun _ => ?_)
      refine go3 6 0 o v2 m' (by omega) (by omega) F ?_
      refine ih (o + 1) v2 _ (by omega) (F.up rfl) (by rw [q_up_i (by omega)]; exact h0) (fun o' a c => ?_)
      by_cases e : o' = (o : Int)
      · rw [e, q_up_s]
      · rw [q_up_i (by omega)]; exact hr o' a (by omega)
  have go1 : ∀ (d j : Nat), j + d = n → q_At yX4_writeStart cX4_writeStart 8 none 1 0 0 (qK (q_rb b) (fun _ m' => c_sT m' 0 n f ∧ q_fx (fun c _ => c = 164) m m')) 5 [(2, 163), (2, s), (1, ((b_pk 64 f j : Nat) : Int)), (4, 0), (0, (j : Int)), (4, 0), (4, 0), (4, 0)] [] (q_sh0, q_rb b, m) := by
    intro d
    induction d with
    | zero =>
      intro j hj
      obtain rfl : j = n := by omega
      refine bkX4_writeStart_5 hs (fun _ => by omega) (fun _ => ?_) (fun z => absurd z (by omega)) (fun z => absurd z (by omega))
      exact go2 6 0 _ _ (by omega) (q_fx.rf.up rfl) q_up_s (fun o' a c => by omega)
    | succ d ih =>
      intro j hj
      refine bkX4_writeStart_5 hs (fun z => absurd z (by omega)) (fun z => absurd z (by omega)) (fun _ => ⟨by omega, q_in_of (by omega) (by omega), q_in_of (by omega) (by omega)⟩) (fun _ => ?_)
      have q := b_orpk (f := f) (kk := 6) (j := j) (by omega) (fun i i0 i1 => b_l64 t h i i0 (by omega))
      rw [show (2 : Nat) ^ 6 = 64 from rfl, show ((6 * j : Nat) : Int) = 6 * (j : Int) by omega] at q
      rw [h1 _ (by omega) (by omega), q]
      exact ih (j + 1) (by omega)
  exact go1 n 0 (by omega)
theorem sp_isPaidC {i : Int} {f : Int → Int} (c : c_sT m i n f) (h : b_ok n T f) (hi : 0 ≤ i ∧ i ≤ 3000) : q_Ev yX4_isPaid cX4_isPaid 3 (some .boolean) 1 0 0 [(2, 163), (0, i)] (q_sh0, q_rb b, m) (qK (q_rb b) (fun r m' => m' = m ∧ ((r = 1 ∧ b_paid f) ∨ (r = 0 ∧ ¬ b_paid f)))) := by
  refine q_enter (by decide +kernel) (by simp) (Nat.le_of_ble_eq_true rfl) ?_
  have go : ∀ (d : Nat) (o : Int), 0 ≤ o → o + d = 6 → (∀ e : Int, 0 ≤ e → e < 6 * o → f (9 + e) = 0) → q_At yX4_isPaid cX4_isPaid 3 (some .boolean) 1 0 0 (qK (q_rb b) (fun r m' => m' = m ∧ ((r = 1 ∧ b_paid f) ∨ (r = 0 ∧ ¬ b_paid f)))) 2 [(2, 163), (0, i), (0, o)] [] (q_sh0, q_rb b, m) := by
    intro d
    induction d with
    | zero =>
      intro o o0 ho hz
      exact bkX4_isPaid_2 (fun _ => ⟨rfl, Or.inl ⟨rfl, fun e a c => hz e a (by omega)⟩⟩) (fun z => absurd z (by omega)) (fun z => absurd z (by omega)) (fun z => absurd z (by omega)) (fun z => absurd z (by omega))
    | succ d ih =>
      intro o o0 ho hz
      have pd := b_pd h (o := o) (by omega)
      have ec := c.2 o o0 (by omega)
      have cm : q_olcmp (m 164 (i * 7 + 1 + o)) 0 = 0 ↔ b_pk 1024 (fun t => f (9 + (6 * o + t))) 6 = 0 := by
        rw [ec, b_cmp ⟨by omega, by omega⟩ ⟨by omega, by omega⟩]; omega
      have zz := b_pk_zero (c := 1024) (by decide) (b_d1024 h (o := o) (by omega))
      refine bkX4_isPaid_2 (fun z => absurd z (by omega)) (fun _ => ⟨q_in_of (by omega) (by omega), q_in_of (by omega) (by omega), q_in_of (by omega) (by omega), by omega⟩) (fun _ _ => q_in_of (by omega) (by omega)) (fun _ z => ?_) (fun _ z => ⟨rfl, Or.inr ⟨rfl, fun y => z (cm.mpr (zz.mpr (fun j j0 j1 => y (6 * o + j) (by omega) (by omega))))⟩⟩)
      refine ih (o + 1) (by omega) (by omega) (fun e a g => ?_)
      by_cases q : e < 6 * o
      · exact hz e a q
      · have := zz.mp (cm.mp z) (e - 6 * o) (by omega) (by omega)
        rw [show 9 + (6 * o + (e - 6 * o)) = 9 + e by omega] at this
        exact this
  exact bkX4_isPaid_0 (go 6 0 (by decide) (by decide) (fun e a c => by omega))
theorem b_B_skip {i x : Int} {Q : b_Q} (hz : ∀ y : Int, 0 ≤ y → y < n → b_due T (Q.2.1 i) x y ≤ 0) : ∀ (d : Nat) (y : Int), 0 ≤ y → y + d ≤ n → b_B n T i x d y Q = (1, Q)
  | 0, _, _, _ => rfl
  | d + 1, y, y0, y1 => by
    have e : b_one n T i x y Q = (1, Q) := by unfold b_one; rw [if_neg (by have := hz y y0 (by omega); omega)]
    rw [b_B, e, if_neg (show ¬ (1 : Int) = 0 by decide)]
    exact b_B_skip hz d (y + 1) (by omega) (by omega)
theorem c_Qs.fx {m' : qm} {Q : b_Q} (q : c_Qs m n Q) (F : q_fx (fun c i => c = 164 ∧ Q.1 * 7 ≤ i ∧ i < Q.1 * 7 + 7) m m') : c_Qs m' n Q := by
  have e : ∀ i k, 0 ≤ i → i < Q.1 → 0 ≤ k → k < 7 → m' 164 (i * 7 + k) = m 164 (i * 7 + k) := fun i k i0 i1 k0 k1 => F 164 _ (by omega)
  refine ⟨(F 163 5 (by omega)).trans q.1, fun i i0 i1 => ⟨?_, fun o o0 o1 => ?_⟩, fun i i0 i1 => ?_, ?_⟩
  · have := e i 0 i0 i1 (by decide) (by decide)
    rw [Int.add_zero] at this
    rw [this]; exact (q.2.1 i i0 i1).1
  · have := e i (1 + o) i0 i1 (by omega) (by omega)
    rw [show i * 7 + (1 + o) = i * 7 + 1 + o by omega] at this
    rw [this]; exact (q.2.1 i i0 i1).2 o o0 o1
  · rw [F 165 i (by omega), F 166 i (by omega)]; exact q.2.2.1 i i0 i1
  · rw [show m' 167 = m 167 from funext fun p => F 167 p (by omega)]
    exact q.2.2.2.ext (fun j j0 j1 => c_h_en (fun k k0 k1 => e j k j0 j1 k0 k1))
theorem b_QV.all {Q : b_Q} (q : b_QV n T Q) : b_all n T Q := ⟨by have := q.1; omega, q.2.1, q.2.2.1⟩
theorem c_T.go {m' : qm} (cT : c_T m n T) (F : q_fx x_goC m m') : c_T m' n T := by
  obtain ⟨a1, a2, a3, a4, a5, a6⟩ := cT
  refine ⟨(F 1 3 (by unfold x_goC x_enC; omega)).trans a1, ?_, ?_, ?_, ?_, ?_⟩
  · exact fun i i0 i1 => (F 2 i (by unfold x_goC x_enC; omega)).trans (a2 i i0 i1)
  · exact fun i i0 i1 => (F 3 i (by unfold x_goC x_enC; omega)).trans (a3 i i0 i1)
  · exact fun i i0 i1 => (F 4 i (by unfold x_goC x_enC; omega)).trans (a4 i i0 i1)
  · exact fun i i0 i1 => (F 10 i (by unfold x_goC x_enC; omega)).trans (a5 i i0 i1)
  · exact fun i i0 i1 => (F 11 i (by unfold x_goC x_enC; omega)).trans (a6 i i0 i1)
theorem sp_goOnC (t : a_TV n T) (cT : c_T m n T) {Q : b_Q} (q : c_Qs m n Q) (qv : b_QV n T Q) {i : Int} (hi : 0 ≤ i ∧ i < Q.1) : q_Ev yX4_goOnFrom cX4_goOnFrom 5 (some .boolean) 4 0 0 [(2, 163), (0, i)] (q_sh0, q_rb b, m) (qK (q_rb b) (fun r m' => r = (b_A n T i n 0 Q).1 ∧ c_Qs m' n (b_A n T i n 0 Q).2 ∧ b_QV n T (b_A n T i n 0 Q).2 ∧ q_fx x_goC m m')) := by
  have n9 := t.1
  generalize hR : b_A n T i n 0 Q = R
  have inner : ∀ (d : Nat) (x y : Int) (Q' : b_Q) (m' : qm), 0 ≤ x ∧ x < n → 0 ≤ y → y + d = n → c_Qs m' n Q' → b_QV n T Q' → Q.1 ≤ Q'.1 → q_fx x_goC m m' → ((b_B n T i x d y Q').1 = 0 → b_B n T i x d y Q' = R) → ((b_B n T i x d y Q').1 ≠ 0 → ∀ m'', c_Qs m'' n (b_B n T i x d y Q').2 → b_QV n T (b_B n T i x d y Q').2 → Q.1 ≤ (b_B n T i x d y Q').2.1 → q_fx x_goC m m'' → q_At yX4_goOnFrom cX4_goOnFrom 5 (some .boolean) 4 0 0 (qK (q_rb b) (fun r m' => r = R.1 ∧ c_Qs m' n R.2 ∧ b_QV n T R.2 ∧ q_fx x_goC m m')) 2 [(2, 163), (0, i), (0, (x + 1)), (4, 0), (4, 0)] [] (q_sh0, q_rb b, m'')) → q_At yX4_goOnFrom cX4_goOnFrom 5 (some .boolean) 4 0 0 (qK (q_rb b) (fun r m' => r = R.1 ∧ c_Qs m' n R.2 ∧ b_QV n T R.2 ∧ q_fx x_goC m m')) 53 [(2, 163), (0, i), (0, x), (0, y), (4, 0)] [] (q_sh0, q_rb b, m') := by
    intro d
    induction d with
    | zero =>
      intro x y Q' m' hx y0 hy q' qv' le F k0 k1
      have en : m' 1 3 = n := (cT.go F).1
      exact bkX4_goOnFrom_53 (P2 := fun _ _ => True) (P4 := fun _ _ _ _ => True) (P5 := fun _ _ _ _ _ _ => True) (fun _ => q_in_of (by omega) (by omega)) (fun _ => k1 (by show (1 : Int) ≠ 0; decide) m' q' qv' le F) (fun z => absurd z (by omega)) (fun z => absurd z (by omega)) (fun z => absurd z (by omega)) (fun z => absurd z (by omega)) (fun z => absurd z (by omega)) (fun z => absurd z (by omega)) (fun z => absurd z (by omega)) (fun z => absurd z (by omega)) (fun z => absurd z (by omega))
    | succ d ih =>
      intro x y Q' m' hx y0 hy q' qv' le F k0 k1
      have en : m' 1 3 = n := (cT.go F).1
      have hi' : 0 ≤ i ∧ i < Q'.1 := by omega
      have ci := q'.2.1 i hi'.1 hi'.2
      have oi := qv'.2.2.1 i hi'.1 hi'.2
      have q3 := qv'.2.1
      have one := qv'.one t hi' hx (y := y) (by omega)
      rw [b_B] at k0 k1
      have step : ∀ m5, c_Qs m5 n (b_one n T i x y Q').2 → q_fx x_goC m m5 → (b_one n T i x y Q').1 ≠ 0 → q_At yX4_goOnFrom cX4_goOnFrom 5 (some .boolean) 4 0 0 (qK (q_rb b) (fun r m' => r = R.1 ∧ c_Qs m' n R.2 ∧ b_QV n T R.2 ∧ q_fx x_goC m m')) 53 [(2, 163), (0, i), (0, x), (0, (y + 1)), (4, 0)] [] (q_sh0, q_rb b, m5) := by
        intro m5 c5 F5 z
        rw [if_neg z] at k0 k1
        exact ih x (y + 1) _ m5 hx (by omega) (by omega) c5 one.1 (by have := one.2.1; omega) F5 k0 k1
      have wd : ∀ r, r = b_due T (Q'.2.1 i) x y → 0 < r → r ≤ 60 := fun r e hr => by
        have p := b_due_p t oi hx (y := y) (by omega) (by omega)
        have := oi.1 x hx.1 hx.2
        have := t.2 x hx.1 hx.2
        omega
      refine bkX4_goOnFrom_53 (P2 := fun r m2 => m2 = m' ∧ r = b_due T (Q'.2.1 i) x y) (P4 := fun _ _ _ m4 => c_sT m4 Q'.1 n (b_nx T (Q'.2.1 i) x y (b_due T (Q'.2.1 i) x y)) ∧ q_fx (fun c i => c = 164 ∧ Q'.1 * 7 ≤ i ∧ i < Q'.1 * 7 + 7) m' m4) (P5 := fun _ _ _ m4 r5 m5 => r5 = (b_add n Q' (b_nx T (Q'.2.1 i) x y (b_due T (Q'.2.1 i) x y)) i (1000 * x + 100 * y + b_due T (Q'.2.1 i) x y)).1 ∧ c_Qs m5 n (b_add n Q' (b_nx T (Q'.2.1 i) x y (b_due T (Q'.2.1 i) x y)) i (1000 * x + 100 * y + b_due T (Q'.2.1 i) x y)).2 ∧ q_fx x_enC m4 m5) (fun z => absurd z (by omega)) (fun z => absurd z (by omega)) (fun _ => sp_canPayC t (cT.go F) ci oi (by omega) hx (by omega)) ?_ ?_ ?_ ?_ ?_ ?_ ?_ ?_
      · rintro _ r2 m2 ⟨rfl, e2⟩ _ z
        exact q_in_of (by omega) (by omega)
      · rintro _ r2 m2 ⟨rfl, e2⟩ _ z
        have e1 : b_one n T i x y Q' = (1, Q') := by unfold b_one; rw [if_neg (by omega)]
        exact step m2 (by rw [e1]; exact q') F (by rw [e1]; exact (by decide : (1 : Int) ≠ 0))
      · rintro _ r2 m2 ⟨rfl, rfl⟩ _ z
        exact sp_writeNextC t (cT.go F) q'.1 (by omega) ci oi hi' hx (by omega) z
      · rintro _ r2 m2 ⟨rfl, e2⟩ _ z r4 m4 _ _
        have := wd r2 e2 z
        exact ⟨q_in_of (by omega) (by omega), q_in_of (by omega) (by omega), q_in_of (by omega) (by omega), q_in_of (by omega) (by omega)⟩
      · rintro _ r2 m2 ⟨rfl, rfl⟩ _ z r4 m4 ⟨c4, f4⟩ _
        exact sp_enterC t (q'.fx f4) qv'.all c4 (oi.nx t hx (by omega) z) _ _
      · rintro _ r2 m2 ⟨rfl, e2⟩ _ z r4 m4 _ _ r5 m5 _ _ z5
        exact q_in_of (by omega) (by omega)
      · rintro _ r2 m2 ⟨rfl, rfl⟩ _ z r4 m4 ⟨c4, f4⟩ _ r5 m5 ⟨e5, c5, f5⟩ _ z5
        have e1 : b_one n T i x y Q' = b_add n Q' (b_nx T (Q'.2.1 i) x y (b_due T (Q'.2.1 i) x y)) i (1000 * x + 100 * y + b_due T (Q'.2.1 i) x y) := by unfold b_one; rw [if_pos z]
        exact step m5 (by rw [e1]; exact c5) ((F.tr (f4.mono (fun c i h => Or.inl h.1))).tr (f5.mono (fun c i h => Or.inr h))) (by rw [e1, ← e5]; exact z5)
      · rintro _ r2 m2 ⟨rfl, rfl⟩ _ z r4 m4 ⟨c4, f4⟩ _ r5 m5 ⟨e5, c5, f5⟩ _ z5
        have e1 : b_one n T i x y Q' = b_add n Q' (b_nx T (Q'.2.1 i) x y (b_due T (Q'.2.1 i) x y)) i (1000 * x + 100 * y + b_due T (Q'.2.1 i) x y) := by unfold b_one; rw [if_pos z]
        have z1 : (b_one n T i x y Q').1 = 0 := by rw [e1, ← e5]; exact z5
        rw [if_pos z1] at k0
        rw [← k0 z1]
        exact ⟨z1.symm, by rw [e1]; exact c5, one.1, (F.tr (f4.mono (fun c i h => Or.inl h.1))).tr (f5.mono (fun c i h => Or.inr h))⟩
  have outer : ∀ (d : Nat) (x : Int) (Q' : b_Q) (m' : qm), 0 ≤ x → x + d = n → c_Qs m' n Q' → b_QV n T Q' → Q.1 ≤ Q'.1 → q_fx x_goC m m' → b_A n T i d x Q' = R → q_At yX4_goOnFrom cX4_goOnFrom 5 (some .boolean) 4 0 0 (qK (q_rb b) (fun r m' => r = R.1 ∧ c_Qs m' n R.2 ∧ b_QV n T R.2 ∧ q_fx x_goC m m')) 2 [(2, 163), (0, i), (0, x), (4, 0), (4, 0)] [] (q_sh0, q_rb b, m') := by
    intro d
    induction d with
    | zero =>
      intro x Q' m' x0 hx q' qv' le F e
      have en : m' 1 3 = n := (cT.go F).1
      have e : (1, Q') = R := e
      exact bkX4_goOnFrom_2 (P3 := fun _ _ => True) (fun _ => by rw [← e]; exact ⟨rfl, q', qv', F⟩) (fun z => absurd z (by omega)) (fun z => absurd z (by omega)) (fun z => absurd z (by omega)) (fun z => absurd z (by omega)) (fun z => absurd z (by omega)) (fun z => absurd z (by omega)) (fun z => absurd z (by omega))
    | succ d ih =>
      intro x Q' m' x0 hx q' qv' le F e
      have cT' := cT.go F
      have en : m' 1 3 = n := cT'.1
      have eo : m' 3 x = T.2.1 x := cT'.2.2.1 x x0 (by omega)
      have tx := t.2 x x0 (by omega)
      have hi' : 0 ≤ i ∧ i < Q'.1 := by omega
      have ci := q'.2.1 i hi'.1 hi'.2
      have oi := qv'.2.2.1 i hi'.1 hi'.2
      have q3 := qv'.2.1
      have pd := b_pd oi (o := T.2.1 x) (by omega)
      have ec := ci.2 (T.2.1 x) (by omega) (by omega)
      have cm : q_olcmp (m' 164 (i * 7 + 1 + m' 3 x)) 0 = 0 ↔ b_pk 1024 (fun t => Q'.2.1 i (9 + (6 * T.2.1 x + t))) 6 = 0 := by
        rw [eo, ec, b_cmp ⟨by omega, by omega⟩ ⟨by omega, by omega⟩]; omega
      have zz := b_pk_zero (c := 1024) (by decide) (b_d1024 oi (o := T.2.1 x) (by omega))
      rw [b_A] at e
      have skip : (∀ y : Int, 0 ≤ y → y < n → b_due T (Q'.2.1 i) x y ≤ 0) → q_At yX4_goOnFrom cX4_goOnFrom 5 (some .boolean) 4 0 0 (qK (q_rb b) (fun r m' => r = R.1 ∧ c_Qs m' n R.2 ∧ b_QV n T R.2 ∧ q_fx x_goC m m')) 2 [(2, 163), (0, i), (0, (x + 1)), (4, 0), (4, 0)] [] (q_sh0, q_rb b, m') := fun hz => by
        rw [b_B_skip hz n 0 (by decide) (by omega), if_neg (show ¬ (1 : Int) = 0 by decide)] at e
        exact ih (x + 1) Q' m' (by omega) (by omega) q' qv' le F e
      refine bkX4_goOnFrom_2 (P3 := fun r m3 => m3 = m' ∧ r = Q'.2.1 i x) (fun z => absurd z (by omega)) (fun _ => ?_) (fun _ _ => q_in_of (by omega) (by omega)) (fun _ z => skip (fun y y0 y1 => ?_)) (fun _ _ => sp_levelInC t ci oi (by omega) (by omega)) ?_ (fun _ _ _ _ _ _ _ => q_in_of (by omega) (by omega)) ?_
      · rw [eo]; exact ⟨q_in_of (by omega) (by omega), q_in_of (by omega) (by omega), by omega, q_in_of (by omega) (by omega), by omega⟩
      · have ty := t.2 y y0 y1
        have this : Q'.2.1 i (9 + (6 * T.2.1 x + T.2.1 y)) = 0 := zz.mp (cm.mp z) (T.2.1 y) (by omega) (by omega)
        unfold b_due
        omega
      · rintro _ _ r3 m3 ⟨rfl, e3⟩ _ z
        refine inner n x 0 Q' m3 (by omega) (by decide) (by omega) q' qv' le F (fun z0 => by rw [if_pos z0] at e; exact e) (fun z0 m'' c'' v'' l'' F'' => ?_)
        rw [if_neg z0] at e
        exact ih (x + 1) _ m'' (by omega) (by omega) c'' v'' l'' F'' e
      · rintro _ _ r3 m3 ⟨rfl, e3⟩ _ z
        refine skip (fun y y0 y1 => ?_)
        unfold b_due
        omega
  refine q_enter (by decide +kernel) (by simp) (Nat.le_of_ble_eq_true rfl) ?_
  exact bkX4_goOnFrom_0 (outer n 0 Q m (by decide) (by omega) q qv (Int.le_refl _) q_fx.rf hR)
end PAYE
