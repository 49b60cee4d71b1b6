/-! ===== the reference adds a state ===== -/
section PAYS
variable {b : Int} {m : qm} {n : Nat} {T : a_T}
theorem r_cu.fr {m' : qm} {f : Int → Int} {X : Int → Int → Prop} (h : r_cu m n f) (F : q_fx X m m') (hX : ∀ i, ¬ X 207 i ∧ ¬ X 216 i) : r_cu m' n f := ⟨fun j a c => (F _ _ (hX j).1).trans (h.1 j a c), fun d a c => (F _ _ (hX d).2).trans (h.2 d a c)⟩
theorem sp_addR (hn : m 188 0 = n) (h9 : n ≤ 9) {Q : b_Q} (q : r_Qs m n Q) (qa : b_all n T Q) (qp : b_pv Q) {N : Int → Int} (hN : r_cu m n N) {v p w : Int} (hv : (v = -1 ∧ Q.1 = 0) ∨ (0 ≤ v ∧ v < Q.1 ∧ p = v)) : q_Ev yX12_addState cX12_addState 8 (some .boolean) 2 0 0 [(2, 188), (0, v), (0, w)] (q_sh0, q_rb b, m) (qK (q_rb b) (fun r m' => r = (b_add n Q N p w).1 ∧ r_Qs m' n (b_add n Q N p w).2 ∧ q_fx x_adR m m')) := by
  obtain ⟨q1, q2, q3, qd, H⟩ := q
  obtain ⟨a0, a1, a2⟩ := qa
  have hh : 0 ≤ r_h n N ∧ r_h n N < 8192 := r_h_r
  -- the state is written down
  have wr2 : ∀ (d v3 v6 : Int) (x : Nat) (j : Int) (m' : qm), ¬ b_in n Q N → Q.1 < 3000 → 0 ≤ d → d < 8192 → m 215 ((r_h n N + d) % 8192) = 0 → (∀ d', 0 ≤ d' → d' < d → m 215 ((r_h n N + d') % 8192) ≠ 0) → 0 ≤ j → j + x = 36 → q_fx (fun c i => c = 211 ∧ 45 * Q.1 ≤ i ∧ i < 45 * Q.1 + 45) m m' → (∀ i : Int, 0 ≤ i → i < n → m' 211 (45 * Q.1 + i) = N i) → (∀ i : Int, 0 ≤ i → i < j → m' 211 (45 * Q.1 + 9 + i) = N (9 + i)) → q_At yX12_addState cX12_addState 8 (some .boolean) 2 0 0 (qK (q_rb b) (fun r m' => r = (b_add n Q N p w).1 ∧ r_Qs m' n (b_add n Q N p w).2 ∧ q_fx x_adR m m')) 194 [(2, 188), (0, v), (0, w), (0, v3), (0, (r_h n N + d) % 8192), (0, j), (0, v6), (4, 0)] [] (q_sh0, q_rb b, m') := by
    intro d v3 v6 x
    induction x with
    | zero =>
      intro j m' hs z2 d0 d1 hz hp j0 hj F w1 w2
      have k42 : m' 188 42 = Q.1 := (F 188 42 (by omega)).trans q1
      have k212 : ∀ i, m' 212 i = m 212 i := fun i => F _ _ (by omega)
      have eA : b_add n Q N p w = (1, b_app Q N p w) := by unfold b_add; rw [q_if_neg hs, if_pos z2]
      -- the end, for both ways
      have fin : ∀ dv : Int, (∀ par', (∀ i, 0 < i → i < Q.1 + 1 → 0 ≤ par' i ∧ par' i < i) → (∀ i, 0 < i → i < Q.1 → par' i = Q.2.2.1 i) → (0 < Q.1 → par' Q.1 = p) → dv = b_dep par' Q.1.toNat Q.1) → (0 < Q.1 → v = p ∧ 0 ≤ p ∧ p < Q.1) → (fun r m' => r = (b_add n Q N p w).1 ∧ r_Qs m' n (b_add n Q N p w).2 ∧ q_fx x_adR m m') 1 (q_up (q_up (q_up (q_up (q_up m' 213 Q.1 v) 214 Q.1 w) 212 Q.1 dv) 188 42 (Q.1 + 1)) 215 ((r_h n N + d) % 8192) (Q.1 + 1)) := by
        intro dv hdv hpv
        rw [eA]
        have F2 : q_fx x_adR m' (q_up (q_up (q_up (q_up (q_up m' 213 Q.1 v) 214 Q.1 w) 212 Q.1 dv) 188 42 (Q.1 + 1)) 215 ((r_h n N + d) % 8192) (Q.1 + 1)) := ((((q_fx.rf.up (Or.inl (by decide))).up (Or.inl (by decide))).up (Or.inl (by decide))).up (Or.inr ⟨rfl, rfl⟩)).up (Or.inl (by decide))
        have e211 : ∀ i, (q_up (q_up (q_up (q_up (q_up m' 213 Q.1 v) 214 Q.1 w) 212 Q.1 dv) 188 42 (Q.1 + 1)) 215 ((r_h n N + d) % 8192) (Q.1 + 1)) 211 i = m' 211 i := fun i => by
          rw [q_up_c (by decide), q_up_c (by decide), q_up_c (by decide), q_up_c (by decide), q_up_c (by decide)]
        have pv' : ∀ i, 0 < i → i < Q.1 + 1 → 0 ≤ (b_app Q N p w).2.2.1 i ∧ (b_app Q N p w).2.2.1 i < i := fun i i0 i1 => by
          show 0 ≤ (if i = Q.1 then p else Q.2.2.1 i) ∧ (if i = Q.1 then p else Q.2.2.1 i) < i
          by_cases e : i = Q.1
          · rw [if_pos e]; have := hpv (by omega); omega
          · rw [if_neg e]; exact qp i i0 (by omega)
        have pe : ∀ i, 0 < i → i < Q.1 → (b_app Q N p w).2.2.1 i = Q.2.2.1 i := fun i i0 i1 => by
          show (if i = Q.1 then p else Q.2.2.1 i) = _
          rw [if_neg (by omega)]
        refine ⟨rfl, ⟨?_, fun i i0 i1 => ?_, fun i i0 i1 => ?_, fun i i0 i1 => ?_, ?_⟩, (F.mono (fun c i h => Or.inl (by omega))).tr F2⟩
        · rw [q_up_c (by decide), q_up_s]; rfl
        · have i1 : i < Q.1 + 1 := i1
          show r_sT _ i n (if i = Q.1 then N else Q.2.1 i)
          by_cases e : i = Q.1
          · rw [if_pos e, e]
            exact ⟨fun j j0 j1 => by rw [e211]; exact w1 j j0 j1, fun d d0 d1 => by rw [e211]; exact w2 d d0 (by omega)⟩
          · rw [if_neg e]
            have r := q2 i i0 (by omega)
            exact ⟨fun j j0 j1 => by rw [e211, F 211 _ (by omega)]; exact r.1 j j0 j1, fun d d0 d1 => by rw [e211, F 211 _ (by omega)]; exact r.2 d d0 d1⟩
        · have i1 : i < Q.1 + 1 := i1
          show _ = (if i = Q.1 then p else Q.2.2.1 i) ∧ _ = (if i = Q.1 then w else Q.2.2.2 i)
          have r3 : (q_up (q_up (q_up (q_up (q_up m' 213 Q.1 v) 214 Q.1 w) 212 Q.1 dv) 188 42 (Q.1 + 1)) 215 ((r_h n N + d) % 8192) (Q.1 + 1)) 213 i = q_up m' 213 Q.1 v 213 i := by rw [q_up_c (by decide), q_up_c (by decide), q_up_c (by decide), q_up_c (by decide)]
          have r4 : (q_up (q_up (q_up (q_up (q_up m' 213 Q.1 v) 214 Q.1 w) 212 Q.1 dv) 188 42 (Q.1 + 1)) 215 ((r_h n N + d) % 8192) (Q.1 + 1)) 214 i = q_up (q_up m' 213 Q.1 v) 214 Q.1 w 214 i := by rw [q_up_c (by decide), q_up_c (by decide), q_up_c (by decide)]
          rw [r3, r4]
          by_cases e : i = Q.1
          · rw [if_pos e, if_pos e, e, q_up_s, q_up_s]; exact ⟨(hpv (by omega)).1, rfl⟩
          · rw [if_neg e, if_neg e, q_up_i e, q_up_i e, q_up_c (by decide), F 213 i (by omega), F 214 i (by omega)]; exact q3 i i0 (by omega)
        · have i1 : i < Q.1 + 1 := i1
          have r2 : (q_up (q_up (q_up (q_up (q_up m' 213 Q.1 v) 214 Q.1 w) 212 Q.1 dv) 188 42 (Q.1 + 1)) 215 ((r_h n N + d) % 8192) (Q.1 + 1)) 212 i = q_up (q_up (q_up m' 213 Q.1 v) 214 Q.1 w) 212 Q.1 dv 212 i := by rw [q_up_c (by decide), q_up_c (by decide)]
          rw [r2]
          by_cases e : i = Q.1
          · rw [e, q_up_s]
            refine hdv _ pv' pe (fun _ => ?_)
            show (if Q.1 = Q.1 then p else _) = p
            rw [if_pos rfl]
          · rw [q_up_i e, q_up_c (by decide), q_up_c (by decide), k212, qd i i0 (by omega)]
            exact (b_dep_en qp pe i.toNat i (by omega)).symm
        · have P := H.put (by decide) a0 (hN := r_h n N) ⟨d0, d1⟩ hz hp (h' := fun i => r_h n ((b_app Q N p w).2.1 i)) (fun j j0 j1 => by
            show r_h n (if j = Q.1 then N else Q.2.1 j) = _
            rw [if_neg (by omega)]) (by
            show r_h n (if Q.1 = Q.1 then N else _) = _
            rw [if_pos rfl])
          have et : (q_up (q_up (q_up (q_up (q_up m' 213 Q.1 v) 214 Q.1 w) 212 Q.1 dv) 188 42 (Q.1 + 1)) 215 ((r_h n N + d) % 8192) (Q.1 + 1)) 215 = (fun x => if x = (r_h n N + d) % 8192 then Q.1 + 1 else m 215 x) := by
            funext x
            by_cases e : x = (r_h n N + d) % 8192
            · rw [if_pos e, e, q_up_s]
            · rw [if_neg e, q_up_i e, q_up_c (by decide), q_up_c (by decide), q_up_c (by decide), q_up_c (by decide)]
              exact F _ _ (by omega)
          rw [et]
          exact P
      have dv0 : v ≠ -1 → 0 ≤ v ∧ v < Q.1 ∧ p = v := fun z => hv.resolve_left (fun y => z y.1)
      refine bkX12_addState_194 (fun _ => by omega) (fun _ z => ?_) (fun _ z => ?_) (fun _ z => ⟨by rw [k42]; exact q_in_of (by omega) (by omega), by omega⟩) (fun _ z => ?_) (fun z => absurd z (by omega)) (fun z => absurd z (by omega))
      · have y := dv0 z
        have ed := qd v y.1 y.2.1
        have dr := b_dep_r (par := Q.2.2.1) v.toNat v
        rw [k212, ed, k42]
        exact ⟨by omega, q_in_of (by omega) (by omega), q_in_of (by omega) (by omega), by omega⟩
      · have y := dv0 z
        have ed := qd v y.1 y.2.1
        rw [k42]
        refine fin (m' 212 v + 1) (fun par' h1 h2 h3 => ?_) (fun _ => by omega)
        rw [k212, ed, b_dep_s h1 (by omega) (by omega), h3 (by omega), y.2.2, b_dep_en qp h2 v.toNat v y.2.1]
        omega
      · have y : Q.1 = 0 := by
          rcases hv with y | y
          · exact y.2
          · omega
        rw [k42]
        refine fin 0 (fun par' h1 h2 h3 => ?_) (fun z => by omega)
        rw [b_dep_0 (by omega)]
    | succ x ih =>
      intro j m' hs z2 d0 d1 hz hp j0 hj F w1 w2
      have k42 : m' 188 42 = Q.1 := (F 188 42 (by omega)).trans q1
      refine bkX12_addState_194 (fun z => absurd z (by omega)) (fun z => absurd z (by omega)) (fun z => absurd z (by omega)) (fun z => absurd z (by omega)) (fun z => absurd z (by omega)) (fun _ => ?_) (fun _ => ?_)
      · rw [k42]; exact ⟨q_in_of (by omega) (by omega), q_in_of (by omega) (by omega), q_in_of (by omega) (by omega), by omega, by omega, q_in_of (by omega) (by omega)⟩
      · rw [k42]
        refine ih (j + 1) _ hs z2 d0 d1 hz hp (by omega) (by omega) (F.up (by omega)) (fun i i0 i1 => by rw [q_up_i (by omega)]; exact w1 i i0 i1) (fun i i0 i1 => ?_)
        by_cases e : i = j
        · rw [e, q_up_s, F 216 _ (by omega)]; exact hN.2 j j0 (by omega)
        · rw [q_up_i (by omega)]; exact w2 i i0 (by omega)
  have wr1 : ∀ (d v3 v6 : Int) (x : Nat) (j : Int) (m' : qm), ¬ b_in n Q N → Q.1 < 3000 → 0 ≤ d → d < 8192 → m 215 ((r_h n N + d) % 8192) = 0 → (∀ d', 0 ≤ d' → d' < d → m 215 ((r_h n N + d') % 8192) ≠ 0) → 0 ≤ j → j + x = n → q_fx (fun c i => c = 211 ∧ 45 * Q.1 ≤ i ∧ i < 45 * Q.1 + 45) m m' → (∀ i : Int, 0 ≤ i → i < j → m' 211 (45 * Q.1 + i) = N i) → q_At yX12_addState cX12_addState 8 (some .boolean) 2 0 0 (qK (q_rb b) (fun r m' => r = (b_add n Q N p w).1 ∧ r_Qs m' n (b_add n Q N p w).2 ∧ q_fx x_adR m m')) 154 [(2, 188), (0, v), (0, w), (0, v3), (0, (r_h n N + d) % 8192), (0, j), (0, v6), (4, 0)] [] (q_sh0, q_rb b, m') := by
    intro d v3 v6 x
    induction x with
    | zero =>
      intro j m' hs z2 d0 d1 hz hp j0 hj F w1
      have kn : m' 188 0 = n := (F 188 0 (by omega)).trans hn
      exact bkX12_addState_154 (fun _ => wr2 d v3 v6 36 0 m' hs z2 d0 d1 hz hp (by decide) (by decide) F (fun i i0 i1 => w1 i i0 (by omega)) (fun i i0 i1 => by omega)) (fun z => absurd z (by omega)) (fun z => absurd z (by omega))
    | succ x ih =>
      intro j m' hs z2 d0 d1 hz hp j0 hj F w1
      have kn : m' 188 0 = n := (F 188 0 (by omega)).trans hn
      have k42 : m' 188 42 = Q.1 := (F 188 42 (by omega)).trans q1
      refine bkX12_addState_154 (fun z => absurd z (by omega)) (fun _ => ?_) (fun _ => ?_)
      · rw [k42]; exact ⟨q_in_of (by omega) (by omega), q_in_of (by omega) (by omega), by omega, by omega, q_in_of (by omega) (by omega)⟩
      · rw [k42]
        refine ih (j + 1) _ hs z2 d0 d1 hz hp (by omega) (by omega) (F.up (by omega)) (fun i i0 i1 => ?_)
        by_cases e : i = j
        · rw [e, q_up_s, F 207 _ (by omega)]; exact hN.1 j j0 (by omega)
        · rw [q_up_i (by omega)]; exact w1 i i0 (by omega)
  have look : ∀ (x : Nat) (d v3 v5 v6 : Int), 0 ≤ d → d + x = 8192 → (∀ d', 0 ≤ d' → d' < d → m 215 ((r_h n N + d') % 8192) ≠ 0 ∧ ¬ b_like n (Q.2.1 (m 215 ((r_h n N + d') % 8192) - 1)) N) → q_At yX12_addState cX12_addState 8 (some .boolean) 2 0 0 (qK (q_rb b) (fun r m' => r = (b_add n Q N p w).1 ∧ r_Qs m' n (b_add n Q N p w).2 ∧ q_fx x_adR m m')) 88 [(2, 188), (0, v), (0, w), (0, v3), (0, (r_h n N + d) % 8192), (0, v5), (0, v6), (4, 0)] [] (q_sh0, q_rb b, m) := by
    intro x
    induction x with
    | zero =>
      intro d v3 v5 v6 d0 hd hp
      exfalso
      exact H.full (Or.inr rfl) (by omega) hh (fun d' a c => (hp d' a (by omega)).1)
    | succ x ih =>
      intro d v3 v5 v6 d0 hd hp
      have hb := H.1 ((r_h n N + d) % 8192) (by omega) (by omega)
      have nin : m 215 ((r_h n N + d) % 8192) = 0 → ¬ b_in n Q N := by
        rintro z ⟨j, j0, j1, lk⟩
        exact H.none (like := fun j => b_like n (Q.2.1 j) N) (hN := r_h n N) (d := d) (fun j j0 j1 lk => r_h_en lk) hp d0 z j j0 j1 lk
      refine bkX12_addState_88 (P4 := fun r m' => m' = m ∧ ((r = 1 ∧ b_like n (Q.2.1 (m 215 ((r_h n N + d) % 8192) - 1)) N) ∨ (r = 0 ∧ ¬ b_like n (Q.2.1 (m 215 ((r_h n N + d) % 8192) - 1)) N))) (by omega) (fun z _ z2 => ?_) (fun z _ z2 => ?_) (fun z y => absurd z y) (fun _ => q_in_of (by omega) (by omega)) (fun z => ?_) ?_ ?_ ?_ ?_ ?_
      · rw [q1] at z2
        exact wr1 d v3 v6 n 0 m (nin z) (by omega) d0 (by omega) z (fun d' a c => (hp d' a c).1) (by decide) (by omega) q_fx.rf (fun i i0 i1 => by omega)
      · rw [q1] at z2
        have eA : b_add n Q N p w = (0, Q) := by unfold b_add; rw [q_if_neg (nin z), if_neg (by omega)]
        rw [eA]; exact ⟨rfl, ⟨q1, q2, q3, qd, H⟩, q_fx.rf⟩
      · have v0 : 0 ≤ m 215 ((r_h n N + d) % 8192) - 1 ∧ m 215 ((r_h n N + d) % 8192) - 1 < Q.1 := by omega
        exact sp_isStateR hn h9 (by omega) (q2 _ v0.1 v0.2) hN
      · rintro z r4 m4 ⟨rfl, g⟩ _ z4 y
        exact absurd y z
      · rintro z r4 m4 ⟨rfl, g⟩ _ z4 y
        exact absurd y z
      · rintro z r4 m4 ⟨rfl, g⟩ _ z4 _
        have g := g.resolve_right (fun y => z4 y.1)
        have eA : b_add n Q N p w = (1, Q) := by unfold b_add; rw [q_if_pos ⟨m4 215 ((r_h n N + d) % 8192) - 1, by omega, by omega, g.2⟩]
        rw [eA]; exact ⟨rfl, ⟨q1, q2, q3, qd, H⟩, q_fx.rf⟩
      · rintro z r4 m4 _ _ z4
        exact q_in_of (by omega) (by omega)
      · rintro z r4 m4 ⟨rfl, g⟩ _ z4
        have g := g.resolve_left (fun y => by omega)
        rw [b_wrap13 (by omega) (by omega), show ((r_h n N + d) % 8192 + 1) % 8192 = (r_h n N + (d + 1)) % 8192 by omega]
        refine ih (d + 1) v3 v5 v6 (by omega) (by omega) (fun d' x0 x1 => ?_)
        by_cases e : d' = d
        · rw [e]; exact ⟨z, g.2⟩
        · exact hp d' x0 (by omega)
  have h2 : ∀ (x k : Nat), k + x = 36 → q_At yX12_addState cX12_addState 8 (some .boolean) 2 0 0 (qK (q_rb b) (fun r m' => r = (b_add n Q N p w).1 ∧ r_Qs m' n (b_add n Q N p w).2 ∧ q_fx x_adR m m')) 48 [(2, 188), (0, v), (0, w), (0, r_hx (fun d => N (9 + d)) k (r_hx N n 7)), (2, 216), (0, 36), (0, (k : Int)), (4, 0)] [] (q_sh0, q_rb b, m) := by
    intro x
    induction x with
    | zero =>
      intro k hk
      obtain rfl : k = 36 := by omega
      refine bkX12_addState_48 (fun _ => ?_) (fun z => absurd z (by omega)) (fun z => absurd z (by omega))
      have l := look 8192 0 (r_hx (fun d => N (9 + d)) 36 (r_hx N n 7)) 36 36 (by decide) (by decide) (fun d' x0 x1 => by omega)
      rw [Int.add_zero, Int.emod_eq_of_lt hh.1 hh.2] at l
      exact l
    | succ x ih =>
      intro k hk
      refine bkX12_addState_48 (fun z => absurd z (by omega)) (fun _ => ⟨by omega, q_in_of (by omega) (by omega)⟩) (fun _ => ?_)
      rw [hN.2 k (by omega) (by omega)]
      exact ih (k + 1) (by omega)
  have h1 : ∀ (x k : Nat), k + x = n → q_At yX12_addState cX12_addState 8 (some .boolean) 2 0 0 (qK (q_rb b) (fun r m' => r = (b_add n Q N p w).1 ∧ r_Qs m' n (b_add n Q N p w).2 ∧ q_fx x_adR m m')) 6 [(2, 188), (0, v), (0, w), (0, r_hx N k 7), (0, (k : Int)), (4, 0), (4, 0), (4, 0)] [] (q_sh0, q_rb b, m) := by
    intro x
    induction x with
    | zero =>
      intro k hk
      obtain rfl : k = n := by omega
      exact bkX12_addState_6 (fun _ => h2 36 0 (by omega)) (fun z => absurd z (by omega)) (fun z => absurd z (by omega))
    | succ x ih =>
      intro k hk
      refine bkX12_addState_6 (fun z => absurd z (by omega)) (fun _ => ⟨by omega, q_in_of (by omega) (by omega)⟩) (fun _ => ?_)
      rw [hN.1 k (by omega) (by omega)]
      exact ih (k + 1) (by omega)
  refine q_enter (by decide +kernel) (by simp) (Nat.le_of_ble_eq_true rfl) ?_
  exact bkX12_addState_0 (h1 n 0 (by omega))
end PAYS
