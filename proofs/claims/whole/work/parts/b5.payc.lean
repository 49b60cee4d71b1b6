/-! ===== the class's states ===== -/
def c_hx (g : Int → Int) : Nat → Int
  | 0 => 0
  | k + 1 => q_olxor (q_w64 ((q_olxor (c_hx g k) (g k)) * (-7046029254386353131))) (q_olushr (q_w64 ((q_olxor (c_hx g k) (g k)) * (-7046029254386353131))) 32)
def c_h (g : Int → Int) : Int := q_ol2i (q_oland (c_hx g 7) 4095)
theorem c_hx_en {f g : Int → Int} : ∀ k : Nat, (∀ j : Int, 0 ≤ j → j < k → f j = g j) → c_hx f k = c_hx g k
  | 0, _ => rfl
  | k + 1, h => by
    simp only [c_hx]
    rw [c_hx_en k (fun j a b => h j a (by omega)), h k (by omega) (by omega)]
theorem c_h_en {f g : Int → Int} (h : ∀ j : Int, 0 ≤ j → j < 7 → f j = g j) : c_h f = c_h g := by unfold c_h; rw [c_hx_en 7 h]
/-- a state of the class's rows -/
def c_sT (m : qm) (i : Int) (n : Nat) (f : Int → Int) : Prop := m 164 (i * 7) = ((b_pk 64 f n : Nat) : Int) ∧ ∀ o : Int, 0 ≤ o → o < 6 → m 164 (i * 7 + 1 + o) = ((b_pk 1024 (fun t => f (9 + (6 * o + t))) 6 : Nat) : Int)
section PAYC
variable {b : Int} {m : qm} {n : Nat} {T : a_T}
theorem b_l64 (t : a_TV n T) {f : Int → Int} (h : b_ok n T f) : ∀ j : Int, 0 ≤ j → j < n → 0 ≤ f j ∧ f j < (64 : Nat) := fun j a c => by have := h.1 j a c; have := t.2 j a c; omega
theorem b_d1024 {f : Int → Int} (h : b_ok n T f) {o : Int} (h0 : 0 ≤ o ∧ o < 6) : ∀ j : Int, 0 ≤ j → j < (6 : Nat) → 0 ≤ f (9 + (6 * o + j)) ∧ f (9 + (6 * o + j)) < (1024 : Nat) := fun j a c => by have := h.2.1 (6 * o + j) (by omega) (by omega); omega
theorem b_pl (t : a_TV n T) {f : Int → Int} (h : b_ok n T f) : b_pk 64 f n < 18014398509481984 := by
  have a := b_pk_lt (by decide) n (b_l64 t h)
  have p : 64 ^ n ≤ 64 ^ 9 := Nat.pow_le_pow_right (by decide) t.1
  have e : 64 ^ 9 = 18014398509481984 := by decide
  omega
theorem b_pd {f : Int → Int} (h : b_ok n T f) {o : Int} (h0 : 0 ≤ o ∧ o < 6) : b_pk 1024 (fun t => f (9 + (6 * o + t))) 6 < 1152921504606846976 := b_pk_lt (by decide) 6 (b_d1024 h h0)
theorem c_sT.rg (t : a_TV n T) {i : Int} {f : Int → Int} (c : c_sT m i n f) (h : b_ok n T f) (k : Int) (k0 : 0 ≤ k) (k1 : k < 7) : 0 ≤ m 164 (i * 7 + k) ∧ m 164 (i * 7 + k) < 1152921504606846976 := by
  by_cases e : k = 0
  · rw [e, Int.add_zero, c.1]; have := b_pl t h; omega
  · have := c.2 (k - 1) (by omega) (by omega)
    rw [show i * 7 + 1 + (k - 1) = i * 7 + k by omega] at this
    rw [this]
    have := b_pd h (o := k - 1) (by omega)
    omega
theorem c_sT.lk (t : a_TV n T) {i i' : Int} {f g : Int → Int} (c : c_sT m i n f) (c' : c_sT m i' n g) (h : b_ok n T f) (h' : b_ok n T g) : (∀ k, 0 ≤ k → k < 7 → m 164 (i * 7 + k) = m 164 (i' * 7 + k)) ↔ b_like n f g := by
  constructor
  · intro q
    refine ⟨?_, fun d d0 d1 => ?_⟩
    · have a := q 0 (by decide) (by decide)
      rw [Int.add_zero, Int.add_zero, c.1, c'.1] at a
      exact (b_pk_inj (by decide) (b_l64 t h) (b_l64 t h')).mp (by omega)
    · have a := q (1 + d / 6) (by omega) (by omega)
      rw [show i * 7 + (1 + d / 6) = i * 7 + 1 + d / 6 by omega, show i' * 7 + (1 + d / 6) = i' * 7 + 1 + d / 6 by omega, c.2 _ (by omega) (by omega), c'.2 _ (by omega) (by omega)] at a
      have z : f (9 + (6 * (d / 6) + d % 6)) = g (9 + (6 * (d / 6) + d % 6)) := (b_pk_inj (by decide) (b_d1024 h (o := d / 6) (by omega)) (b_d1024 h' (o := d / 6) (by omega))).mp (by omega) (d % 6) (by omega) (by omega)
      rw [show 6 * (d / 6) + d % 6 = d by omega] at z
      exact z
  · intro q k k0 k1
    by_cases e : k = 0
    · rw [e, Int.add_zero, Int.add_zero, c.1, c'.1, b_pk_ext n q.1]
    · have a := c.2 (k - 1) (by omega) (by omega)
      have a' := c'.2 (k - 1) (by omega) (by omega)
      rw [show i * 7 + 1 + (k - 1) = i * 7 + k by omega] at a
      rw [show i' * 7 + 1 + (k - 1) = i' * 7 + k by omega] at a'
      rw [a, a', b_pk_ext 6 (fun j j0 j1 => q.2 (6 * (k - 1) + j) (by omega) (by omega))]
theorem sp_firstSpotC {c : Int} (hc : m 163 5 = c) (h0 : 0 ≤ c ∧ c ≤ 3000) : q_Ev yX4_firstSpot cX4_firstSpot 4 (some .int) 1 0 0 [(2, 163)] (q_sh0, q_rb b, m) (qK (q_rb b) (fun r m' => m' = m ∧ r = c_h (fun k => m 164 (c * 7 + k)))) := by
  refine q_enter (by decide +kernel) (by simp) (Nat.le_of_ble_eq_true rfl) ?_
  have go : ∀ (d i : Nat), i + d = 7 → q_At yX4_firstSpot cX4_firstSpot 4 (some .int) 1 0 0 (qK (q_rb b) (fun r m' => m' = m ∧ r = c_h (fun k => m 164 (c * 7 + k)))) 4 [(2, 163), (1, c_hx (fun k => m 164 (c * 7 + k)) i), (4, 0), (0, (i : Int))] [] (q_sh0, q_rb b, m) := by
    intro d
    induction d with
    | zero =>
      intro i hi
      obtain rfl : i = 7 := by omega
      exact bkX4_firstSpot_4 (fun _ => ⟨rfl, rfl⟩) (fun z => absurd z (by omega)) (fun z => absurd z (by omega))
    | succ d ih =>
      intro i hi
      refine bkX4_firstSpot_4 (fun z => absurd z (by omega)) (fun _ => ?_) (fun _ => ?_)
      · rw [hc]; exact ⟨q_in_of (by omega) (by omega), q_in_of (by omega) (by omega), by omega, q_in_of (by omega) (by omega)⟩
      · rw [hc]; exact ih (i + 1) (by omega)
  exact bkX4_firstSpot_0 (go 7 0 (by omega))
theorem sp_isLikeC {c v : Int} (hc : m 163 5 = c) (h0 : 0 ≤ c ∧ c ≤ 3000) (hv : 0 ≤ v ∧ v ≤ 3000) (hr : ∀ k, 0 ≤ k → k < 7 → q_in64 (m 164 (v * 7 + k)) ∧ q_in64 (m 164 (c * 7 + k))) : q_Ev yX4_isLike cX4_isLike 3 (some .boolean) 1 0 0 [(2, 163), (0, v)] (q_sh0, q_rb b, m) (qK (q_rb b) (fun r m' => m' = m ∧ ((r = 1 ∧ ∀ k, 0 ≤ k → k < 7 → m 164 (v * 7 + k) = m 164 (c * 7 + k)) ∨ (r = 0 ∧ ¬ ∀ k, 0 ≤ k → k < 7 → m 164 (v * 7 + k) = m 164 (c * 7 + k))))) := by
  refine q_enter (by decide +kernel) (by simp) (Nat.le_of_ble_eq_true rfl) ?_
  have go : ∀ (d : Nat) (i : Int), 0 ≤ i → i + d = 7 → (∀ k, 0 ≤ k → k < i → m 164 (v * 7 + k) = m 164 (c * 7 + k)) → q_At yX4_isLike cX4_isLike 3 (some .boolean) 1 0 0 (qK (q_rb b) (fun r m' => m' = m ∧ ((r = 1 ∧ ∀ k, 0 ≤ k → k < 7 → m 164 (v * 7 + k) = m 164 (c * 7 + k)) ∨ (r = 0 ∧ ¬ ∀ k, 0 ≤ k → k < 7 → m 164 (v * 7 + k) = m 164 (c * 7 + k))))) 2 [(2, 163), (0, v), (0, i)] [] (q_sh0, q_rb b, m) := by
    intro d
    induction d with
    | zero =>
      intro i i0 hi he
      exact bkX4_isLike_2 (fun _ => ⟨rfl, Or.inl ⟨rfl, fun k a b => he k a (by omega)⟩⟩) (fun z => absurd z (by omega)) (fun z => absurd z (by omega)) (fun z => absurd z (by omega)) (fun z => absurd z (by omega))
    | succ d ih =>
      intro i i0 hi he
      have r := hr i i0 (by omega)
      refine bkX4_isLike_2 (fun z => absurd z (by omega)) (fun _ => ?_) (fun _ _ => q_in_of (by omega) (by omega)) (fun _ z => ?_) (fun _ z => ?_)
      · rw [hc]; exact ⟨q_in_of (by omega) (by omega), q_in_of (by omega) (by omega), by omega, q_in_of (by omega) (by omega), q_in_of (by omega) (by omega), by omega⟩
      · rw [hc] at z
        have e := (b_cmp r.1 r.2).mp z
        refine ih (i + 1) (by omega) (by omega) (fun k a b => ?_)
        by_cases q : k = i
        · rw [q]; exact e
        · exact he k a (by omega)
      · rw [hc] at z
        exact ⟨rfl, Or.inr ⟨rfl, fun y => z ((b_cmp r.1 r.2).mpr (y i i0 (by omega)))⟩⟩
  exact bkX4_isLike_0 (go 7 0 (by decide) (by decide) (fun k a b => by omega))
def c_Qs (m : qm) (n : Nat) (Q : b_Q) : Prop := m 163 5 = Q.1 ∧ (∀ i, 0 ≤ i → i < Q.1 → c_sT m i n (Q.2.1 i)) ∧ (∀ i, 0 < i → i < Q.1 → m 165 i = Q.2.2.1 i ∧ m 166 i = Q.2.2.2 i) ∧ b_H (m 167) 4096 (fun i => c_h (fun k => m 164 (i * 7 + k))) Q.1
abbrev b_all (n : Nat) (T : a_T) (Q : b_Q) : Prop := 0 ≤ Q.1 ∧ Q.1 ≤ 3000 ∧ ∀ i, 0 ≤ i → i < Q.1 → b_ok n T (Q.2.1 i)
abbrev x_enC (c i : Int) : Prop := c = 165 ∨ c = 166 ∨ c = 167 ∨ (c = 163 ∧ i = 5)
theorem sp_enterC (t : a_TV n T) {Q : b_Q} (q : c_Qs m n Q) (qa : b_all n T Q) {N : Int → Int} (hN : c_sT m Q.1 n N) (oN : b_ok n T N) (p w : Int) : q_Ev yX4_enter cX4_enter 4 (some .boolean) 3 0 0 [(2, 163), (0, p), (0, w)] (q_sh0, q_rb b, m) (qK (q_rb b) (fun r m' => r = (b_add n Q N p w).1 ∧ c_Qs m' n (b_add n Q N p w).2 ∧ q_fx x_enC m m')) := by
  obtain ⟨q1, q2, q3, H⟩ := q
  obtain ⟨a0, a1, a2⟩ := qa
  have hh : 0 ≤ c_h (fun k => m 164 (Q.1 * 7 + k)) ∧ c_h (fun k => m 164 (Q.1 * 7 + k)) < 4096 := b_hash (v := c_hx (fun k => m 164 (Q.1 * 7 + k)) 7)
  have rg : ∀ v, 0 ≤ v → v < Q.1 → ∀ k, 0 ≤ k → k < 7 → q_in64 (m 164 (v * 7 + k)) ∧ q_in64 (m 164 (Q.1 * 7 + k)) := fun v v0 v1 k k0 k1 => by
    have r1 := (q2 v v0 v1).rg t (a2 v v0 v1) k k0 k1
    have r2 := hN.rg t oN k k0 k1
    exact ⟨⟨by omega, by omega⟩, ⟨by omega, by omega⟩⟩
  generalize hNe : c_h (fun k => m 164 (Q.1 * 7 + k)) = hv at hh
  -- where the searching stops
  let stop : Int → Prop := fun r => ∃ d, 0 ≤ d ∧ d < 4096 ∧ r = (hv + d) % 4096 ∧ (∀ d', 0 ≤ d' → d' < d → m 167 ((hv + d') % 4096) ≠ 0) ∧ ((m 167 r = 0 ∧ ¬ b_in n Q N) ∨ (m 167 r ≠ 0 ∧ b_in n Q N))
  have find : q_Ev yX4_findSpot cX4_findSpot 3 (some .int) 2 0 0 [(2, 163)] (q_sh0, q_rb b, m) (qK (q_rb b) (fun r m' => m' = m ∧ stop r)) := by
    refine q_enter (by decide +kernel) (by simp) (Nat.le_of_ble_eq_true rfl) ?_
    have go : ∀ (x : Nat) (d : Int), 0 ≤ d → d + x = 4096 → (∀ d', 0 ≤ d' → d' < d → m 167 ((hv + d') % 4096) ≠ 0 ∧ ¬ b_like n (Q.2.1 (m 167 ((hv + d') % 4096) - 1)) N) → q_At yX4_findSpot cX4_findSpot 3 (some .int) 2 0 0 (qK (q_rb b) (fun r m' => m' = m ∧ stop r)) 7 [(2, 163), (0, (hv + d) % 4096), (0, d)] [] (q_sh0, q_rb b, m) := by
      intro x
      induction x with
      | zero =>
        intro d d0 hd hp
        exfalso
        exact H.full (Or.inl rfl) (by omega) hh (fun d' a c => (hp d' a (by omega)).1)
      | succ x ih =>
        intro d d0 hd hp
        have hb := H.1 ((hv + d) % 4096) (by omega) (by omega)
        refine bkX4_findSpot_7 (P3 := fun r m' => m' = m ∧ ((r = 1 ∧ b_like n (Q.2.1 (m 167 ((hv + d) % 4096) - 1)) N) ∨ (r = 0 ∧ ¬ b_like n (Q.2.1 (m 167 ((hv + d) % 4096) - 1)) N))) (fun z => absurd z (by omega)) (fun _ => by omega) (fun _ z => ⟨rfl, d, d0, by omega, rfl, fun d' a c => (hp d' a c).1, Or.inl ⟨z, ?_⟩⟩) (fun _ z => q_in_of (by omega) (by omega)) (fun _ z => ?_) ?_ (fun _ _ _ _ _ _ _ => ⟨q_in_of (by omega) (by omega), q_in_of (by omega) (by omega)⟩) ?_
        · rintro ⟨j, j0, j1, lk⟩
          refine H.none (like := fun j => b_like n (Q.2.1 j) N) (hN := hv) (d := d) (fun j j0 j1 lk => ?_) hp d0 z j j0 j1 lk
          rw [← hNe]
          exact c_h_en (((q2 j j0 j1).lk t hN (a2 j j0 j1) oN).mpr lk)
        · have v0 : 0 ≤ m 167 ((hv + d) % 4096) - 1 ∧ m 167 ((hv + d) % 4096) - 1 < Q.1 := by omega
          refine (sp_isLikeC q1 ⟨a0, a1⟩ (by omega) (rg _ v0.1 v0.2)).post (fun r m' y => ⟨y.1, ?_⟩)
          have e := (q2 _ v0.1 v0.2).lk t hN (a2 _ v0.1 v0.2) oN
          rcases y.2 with y | y
          · exact Or.inl ⟨y.1, e.mp y.2⟩
          · exact Or.inr ⟨y.1, fun w => y.2 (e.mpr w)⟩
        · rintro _ z r3 m3 ⟨rfl, g⟩ _ z3
          have g := g.resolve_right (fun y => z3 y.1)
          exact ⟨rfl, d, d0, by omega, rfl, fun d' a c => (hp d' a c).1, Or.inr ⟨z, m3 167 ((hv + d) % 4096) - 1, by omega, by omega, g.2⟩⟩
        · rintro _ z r3 m3 ⟨rfl, g⟩ _ z3
          have g := g.resolve_left (fun y => by omega)
          rw [q_orem_nn (by omega) (by omega) (by decide) (by decide), show ((hv + d) % 4096 + 1) % 4096 = (hv + (d + 1)) % 4096 by omega]
          refine ih (d + 1) (by omega) (by omega) (fun d' x0 x1 => ?_)
          by_cases e : d' = d
          · rw [e]; exact ⟨z, g.2⟩
          · exact hp d' x0 (by omega)
    refine bkX4_findSpot_0 (sp_firstSpotC q1 ⟨a0, a1⟩) ?_
    rintro r1 m1 ⟨rfl, er⟩ _
    rw [er, hNe]
    have := go 4096 0 (by decide) (by decide) (fun d' x0 x1 => by omega)
    rw [Int.add_zero, Int.emod_eq_of_lt hh.1 hh.2] at this
    exact this
  refine q_enter (by decide +kernel) (by simp) (Nat.le_of_ble_eq_true rfl) ?_
  refine bkX4_enter_0 find ?_ ?_ ?_ ?_ ?_
  · rintro r1 m1 ⟨rfl, d, d0, d1, er, -⟩ _
    rw [er]; omega
  · rintro r1 m1 ⟨rfl, -⟩ _ z z2
    exact ⟨by omega, q_in_of (by omega) (by omega)⟩
  · rintro r1 m1 ⟨rfl, d, d0, d1, er, hp, hs⟩ _ z z2
    have hs := (hs.resolve_right (fun y => y.1 z)).2
    rw [q1] at z2 ⊢
    unfold b_add
    rw [q_if_neg hs, if_pos z2]
    have F : q_fx x_enC m1 (q_up (q_up (q_up (q_up m1 165 Q.1 p) 166 Q.1 w) 163 5 (Q.1 + 1)) 167 r1 (Q.1 + 1)) := (((q_fx.rf.up (Or.inl rfl)).up (Or.inr (Or.inl rfl))).up (Or.inr (Or.inr (Or.inr ⟨rfl, rfl⟩)))).up (Or.inr (Or.inr (Or.inl rfl)))
    have e164 : ∀ i, (q_up (q_up (q_up (q_up m1 165 Q.1 p) 166 Q.1 w) 163 5 (Q.1 + 1)) 167 r1 (Q.1 + 1)) 164 i = m1 164 i := fun i => F 164 i (by unfold x_enC; omega)
    refine ⟨rfl, ⟨?_, fun i i0 i1 => ?_, fun i i0 i1 => ?_, ?_⟩, F⟩
    · rw [q_up_c (by decide), q_up_s]; rfl
    · have i1 : i < Q.1 + 1 := i1
      show c_sT _ i n (if i = Q.1 then N else Q.2.1 i)
      have key : ∀ f, c_sT m1 i n f → c_sT (q_up (q_up (q_up (q_up m1 165 Q.1 p) 166 Q.1 w) 163 5 (Q.1 + 1)) 167 r1 (Q.1 + 1)) i n f := fun f h => ⟨by rw [e164]; exact h.1, fun o o0 o1 => by rw [e164]; exact h.2 o o0 o1⟩
      by_cases e : i = Q.1
      · rw [if_pos e]; exact key N (by rw [e]; exact hN)
      · rw [if_neg e]; exact key _ (q2 i i0 (by omega))
    · have i1 : i < Q.1 + 1 := i1
      show _ = (if i = Q.1 then p else Q.2.2.1 i) ∧ _ = (if i = Q.1 then w else Q.2.2.2 i)
      have r5 : (q_up (q_up (q_up (q_up m1 165 Q.1 p) 166 Q.1 w) 163 5 (Q.1 + 1)) 167 r1 (Q.1 + 1)) 165 i = q_up m1 165 Q.1 p 165 i := by rw [q_up_c (c := 167) (by decide), q_up_c (c := 163) (by decide), q_up_c (c := 166) (by decide)]
      have r6 : (q_up (q_up (q_up (q_up m1 165 Q.1 p) 166 Q.1 w) 163 5 (Q.1 + 1)) 167 r1 (Q.1 + 1)) 166 i = q_up (q_up m1 165 Q.1 p) 166 Q.1 w 166 i := by rw [q_up_c (c := 167) (by decide), q_up_c (c := 163) (by decide)]
      rw [r5, r6]
      by_cases e : i = Q.1
      · rw [if_pos e, if_pos e, e, q_up_s, q_up_s]; exact ⟨rfl, rfl⟩
      · rw [if_neg e, if_neg e, q_up_i e, q_up_i e, q_up_c (by decide)]; exact q3 i i0 (by omega)
    · have P := H.put (by decide) a0 (hN := hv) ⟨d0, d1⟩ (by rw [← er]; exact z) hp (h' := fun i => c_h (fun k => m1 164 (i * 7 + k))) (fun j _ _ => rfl) hNe
      have ef : (fun i => c_h (fun k => (q_up (q_up (q_up (q_up m1 165 Q.1 p) 166 Q.1 w) 163 5 (Q.1 + 1)) 167 r1 (Q.1 + 1)) 164 (i * 7 + k))) = (fun i => c_h (fun k => m1 164 (i * 7 + k))) := by
        funext i; exact congrArg c_h (funext fun k => e164 _)
      have et : (q_up (q_up (q_up (q_up m1 165 Q.1 p) 166 Q.1 w) 163 5 (Q.1 + 1)) 167 r1 (Q.1 + 1)) 167 = (fun x => if x = (hv + d) % 4096 then Q.1 + 1 else m1 167 x) := by
        funext x
        rw [← er]
        by_cases e : x = r1
        · rw [if_pos e, e, q_up_s]
        · rw [if_neg e, q_up_i e, q_up_c (by decide), q_up_c (by decide), q_up_c (by decide)]
      rw [ef, et]
      exact P
  · rintro r1 m1 ⟨rfl, d, d0, d1, er, hp, hs⟩ _ z z2
    have hs := (hs.resolve_right (fun y => y.1 z)).2
    rw [q1] at z2
    unfold b_add
    rw [q_if_neg hs, if_neg (by omega)]
    exact ⟨rfl, ⟨q1, q2, q3, H⟩, q_fx.rf⟩
  · rintro r1 m1 ⟨rfl, d, d0, d1, er, hp, hs⟩ _ z
    have hs := (hs.resolve_left (fun y => z y.1)).2
    unfold b_add
    rw [q_if_pos hs]
    exact ⟨rfl, ⟨q1, q2, q3, H⟩, q_fx.rf⟩
end PAYC
