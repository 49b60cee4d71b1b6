/-! ===== the reference's town() ===== -/
def g_ap (db nd : Int → Int) : Nat → Int → Int
  | 0, d => db d
  | k + 1, d => if d = 6 * nd (3 * k) + nd (3 * k + 1) then nd (3 * k + 2) else g_ap db nd k d
theorem g_ap_en {db db' nd nd' : Int → Int} : ∀ (k : Nat), (∀ d, db d = db' d) → (∀ i : Int, 0 ≤ i → i < 3 * k → nd i = nd' i) → ∀ d, g_ap db nd k d = g_ap db' nd' k d
  | 0, h, _, d => h d
  | k + 1, h, g, d => by
    simp only [g_ap]
    rw [g (3 * k) (by omega) (by omega), g (3 * k + 1) (by omega) (by omega), g (3 * k + 2) (by omega) (by omega), g_ap_en k h (fun i a b => g i a (by omega)) d]
abbrev x_toM (n0 c i : Int) : Prop := (c = 188 ∧ (i = 14 ∨ i = 17 ∨ (19 ≤ i ∧ i ≤ 22))) ∨ c = 200 ∨ ((189 ≤ c ∧ c ≤ 194) ∧ n0 ≤ i)
abbrev x_uM (n0 c i : Int) : Prop := x_toM n0 c i ∨ (c = 188 ∧ (i = 0 ∨ i = 30 ∨ i = 51)) ∨ (c = 195 ∧ n0 ≤ i) ∨ (c = 196 ∧ 60 * n0 ≤ i) ∨ c = 197
def r_G (n0 : Int) (m G : qm) (w : Nat) : Prop := (∀ i, 0 ≤ i → i < G 7 0 → m 189 i = G 0 i ∧ m 191 i = G 2 i ∧ m 192 i = G 3 i ∧ m 193 i = G 4 i ∧ m 194 i = G 5 i) ∧ (∀ j, n0 ≤ j → j < G 7 0 → m 190 j = G 1 j) ∧ (∀ d, 0 ≤ d → d < 36 → g_ap (m 197) (m 200) w d = G 6 d) ∧ ∀ k : Nat, k < w → (0 ≤ m 200 (3 * k) ∧ m 200 (3 * k) ≤ 5) ∧ (0 ≤ m 200 (3 * k + 1) ∧ m 200 (3 * k + 1) ≤ 5)
theorem r_G.fr {n0 : Int} {m m' G : qm} {w : Nat} {X : Int → Int → Prop} (h : r_G n0 m G w) (hf : q_fx X m m') (hd : ∀ c i, (189 ≤ c ∧ c ≤ 194) ∨ c = 197 ∨ c = 200 → ¬ X c i) : r_G n0 m' G w := by
  have e : ∀ c i, (189 ≤ c ∧ c ≤ 194) ∨ c = 197 ∨ c = 200 → m' c i = m c i := fun c i z => hf c i (hd c i z)
  obtain ⟨a, b, c, d⟩ := h
  refine ⟨fun i i0 i1 => ?_, fun j j0 j1 => (e _ _ (by omega)).trans (b j j0 j1), fun x x0 x1 => ?_, fun k hk => ?_⟩
  · rw [e 189 i (by omega), e 191 i (by omega), e 192 i (by omega), e 193 i (by omega), e 194 i (by omega)]; exact a i i0 i1
  · rw [g_ap_en w (fun d => e 197 d (by omega)) (fun i _ _ => e 200 i (by omega))]; exact c x x0 x1
  · rw [e 200 _ (by omega), e 200 _ (by omega)]; exact d k hk
/-- the reference has the new town -/
def r_H (n0 : Int) (m0 m G : qm) : Prop := m 188 0 = G 7 0 ∧ (∀ i, 0 ≤ i → i < G 7 0 → m 189 i = G 0 i ∧ m 191 i = G 2 i ∧ m 192 i = G 3 i ∧ m 193 i = G 4 i ∧ m 194 i = G 5 i) ∧ (∀ j, n0 ≤ j → j < G 7 0 → m 190 j = G 1 j ∧ m 195 j = 0 ∧ ∀ k, 0 ≤ k → k < 60 → m 196 (60 * j + k) = G 3 j) ∧ (∀ d, 0 ≤ d → d < 36 → m 197 d = G 6 d) ∧ m 188 30 = 0 ∧ m 188 51 = m0 188 51 + (if n0 < G 7 0 then 1 else 0)
section TOWNR2
variable {m0 : qm} {n : Nat} {S : Int → Int} {L : Int}
/-- what town() leaves -/
def r_post (n : Int) (L : Int) (R : Int × qm × a_R) (m0 : qm) : Int → qm → Prop := fun r m' => r = t_ans L R ∧ m' 188 14 = 0 ∧ q_fx (x_uM n) m0 m' ∧ (t_end L 76 R.2.2 ≠ -1 → q_fx (x_toM n) m0 m') ∧ (t_end L 76 R.2.2 = -1 → r_H n m0 m' R.2.1)
theorem rf_at327 {R : Int × qm × a_R} {m1 : qm} {w : Nat} (he : t_end L 76 R.2.2 = -1) (hw : w ≤ 80) (g : r_G n m1 R.2.1 w) : ∀ (d : Nat) (k : Nat) (m' : qm), k + d = w → q_fx (x_uM n) m0 m' → q_fx (fun c _ => c = 197) m1 m' → (∀ x, m' 197 x = g_ap (m1 197) (m1 200) k x) → m' 188 14 = 0 → m' 188 0 = R.2.1 7 0 → (∀ j, (n : Int) ≤ j → j < R.2.1 7 0 → m' 195 j = 0 ∧ ∀ k, 0 ≤ k → k < 60 → m' 196 (60 * j + k) = R.2.1 3 j) → m' 188 51 = m0 188 51 + (if (n : Int) < R.2.1 7 0 then 1 else 0) → ∀ v1 v4,
    q_At yX12_town cX12_town 7 (some .int) 5 0 0 (qK (q_rb 198) (r_post n L R m0)) 327 [(2, 188), (0, v1), (0, (w : Int)), (0, R.1), (0, v4), (0, (k : Int)), (4, 0)] [] (q_sh0, q_rb 198, m') := by
  intro d
  induction d with
  | zero =>
    intro k m' hk F f1 h7 h14 h0 h5 h51 v1 v4
    have hk : k = w := by omega
    subst hk
    refine bkX12_town_327 (b := 198) (fun _ => ⟨by unfold t_ans; rw [if_pos he], (q_up_i (by decide)).trans h14, F.up (Or.inr (Or.inl ⟨rfl, by decide⟩)), fun y => absurd he y, fun _ => ⟨(q_up_i (by decide)).trans h0, fun i i0 i1 => ?_, fun j j0 j1 => ?_, fun d d0 d1 => ?_, q_up_s, (q_up_i (by decide)).trans h51⟩⟩) (fun z => absurd z (by omega)) (fun z => absurd z (by omega))
    · rw [q_up_c (by decide), q_up_c (by decide), q_up_c (by decide), q_up_c (by decide), q_up_c (by decide), f1 189 i (by simp), f1 191 i (by simp), f1 192 i (by simp), f1 193 i (by simp), f1 194 i (by simp)]
      exact g.1 i i0 i1
    · rw [q_up_c (by decide), q_up_c (by decide), f1 190 j (by simp)]
      refine ⟨g.2.1 j j0 j1, (h5 j j0 j1).1, fun k k0 k1 => ?_⟩
      rw [q_up_c (by decide)]; exact (h5 j j0 j1).2 k k0 k1
    · rw [q_up_c (by decide), h7]; exact g.2.2.1 d d0 d1
  | succ d ih =>
    intro k m' hk F f1 h7 h14 h0 h5 h51 v1 v4
    have e : ∀ i, m' 200 i = m1 200 i := fun i => f1 200 i (by simp)
    have gk := g.2.2.2 k (by omega)
    refine bkX12_town_327 (b := 198) (fun z => absurd z (by omega)) (fun _ => ?_) (fun _ => ?_)
    · rw [e, e]
      refine ⟨q_in_of (by omega) (by omega), by omega, q_in_of (by omega) (by omega), q_in_of (by omega) (by omega), by omega, q_in_of (by omega) (by omega), q_in_of (by omega) (by omega), by omega, by omega, q_in_of (by omega) (by omega)⟩
    · refine ih (k + 1) _ (by omega) (F.up (Or.inr (Or.inr (Or.inr (Or.inr rfl))))) (f1.up rfl) (fun x => ?_) ((q_up_c (by decide)).trans h14) ((q_up_c (by decide)).trans h0) (fun j j0 j1 => ?_) ((q_up_c (by decide)).trans h51) v1 v4
      · rw [e, e, e]
        simp only [g_ap]
        by_cases q : x = 6 * m1 200 (3 * k) + m1 200 (3 * k + 1)
        · rw [if_pos q, q, q_up_s]
        · rw [if_neg q, q_up_i q]; exact h7 x
      · rw [q_up_c (by decide)]
        refine ⟨(h5 j j0 j1).1, fun k k0 k1 => ?_⟩
        rw [q_up_c (by decide)]; exact (h5 j j0 j1).2 k k0 k1
theorem rf_at245 {R : Int × qm × a_R} {m1 : qm} {w : Nat} (he : t_end L 76 R.2.2 = -1) (hw : w ≤ 80) (hn9 : (n : Int) ≤ R.2.1 7 0 ∧ R.2.1 7 0 ≤ 9) (g : r_G n m1 R.2.1 w) (h188 : m1 188 0 = n) (h51 : m1 188 51 = m0 188 51) (h510 : 0 ≤ m0 188 51 ∧ m0 188 51 ≤ 100000) : ∀ (d : Nat) (j : Int) (m' : qm), (n : Int) ≤ j → j + d = R.2.1 7 0 → q_fx (x_uM n) m0 m' → q_fx (fun c _ => c = 195 ∨ c = 196) m1 m' → m' 188 14 = 0 → (∀ i, (n : Int) ≤ i → i < j → m' 195 i = 0 ∧ ∀ k, 0 ≤ k → k < 60 → m' 196 (60 * i + k) = R.2.1 3 i) → ∀ v4,
    q_At yX12_town cX12_town 7 (some .int) 5 0 0 (qK (q_rb 198) (r_post n L R m0)) 245 [(2, 188), (0, R.2.1 7 0), (0, (w : Int)), (0, R.1), (0, v4), (0, j), (4, 0)] [] (q_sh0, q_rb 198, m') := by
  intro d
  induction d with
  | zero =>
    intro j m' hj hd F f1 h14 h5 v4
    have e0 : m' 188 0 = n := (f1 188 0 (by simp)).trans h188
    have e51 : m' 188 51 = m0 188 51 := (f1 188 51 (by simp)).trans h51
    have hj : j = R.2.1 7 0 := by omega
    refine bkX12_town_245 (b := 198) (fun _ z => ?_) (fun _ z => q_in_of (by omega) (by omega)) (fun _ z => ?_) (fun z => absurd z (by omega)) (fun z => absurd z (by omega))
    · have hnn : ¬ (n : Int) < R.2.1 7 0 := by omega
      refine rf_at327 (m1 := q_up m' 188 0 (R.2.1 7 0)) he hw ((g.fr f1 (by omega)).fr (X := fun c _ => c = 188) (q_fx.rf.up rfl) (by omega)) w 0 _ (by omega) (F.up (Or.inr (Or.inl ⟨rfl, by decide⟩))) q_fx.rf (fun x => rfl) ((q_up_i (by decide)).trans h14) q_up_s (fun i i0 i1 => by omega) ?_ _ _
      rw [q_up_i (by decide), e51, if_neg hnn]; omega
    · have hnn : (n : Int) < R.2.1 7 0 := by omega
      refine rf_at327 (m1 := q_up (q_up m' 188 51 (m' 188 51 + 1)) 188 0 (R.2.1 7 0)) he hw ((g.fr f1 (by omega)).fr (X := fun c _ => c = 188) (q_fx.up (X := fun c _ => c = 188) (q_fx.up (X := fun c _ => c = 188) q_fx.rf rfl) rfl) (by omega)) w 0 _ (by omega) ((F.up (Or.inr (Or.inl ⟨rfl, by decide⟩))).up (Or.inr (Or.inl ⟨rfl, by decide⟩))) q_fx.rf (fun x => rfl) ((q_up_i (by decide)).trans ((q_up_i (by decide)).trans h14)) q_up_s (fun i i0 i1 => ?_) ?_ _ _
      · rw [q_up_c (by decide), q_up_c (by decide)]
        refine ⟨(h5 i i0 (by omega)).1, fun k k0 k1 => ?_⟩
        rw [q_up_c (by decide), q_up_c (by decide)]; exact (h5 i i0 (by omega)).2 k k0 k1
      · rw [q_up_i (by decide), q_up_s, e51, if_pos hnn]
  | succ d ih =>
    intro j m' hj hd F f1 h14 h5 v4
    refine bkX12_town_245 (b := 198) (fun z => absurd z (by omega)) (fun z => absurd z (by omega)) (fun z => absurd z (by omega)) (fun _ => by omega) (fun _ => ?_)
    have go : ∀ (x : Nat) (k : Int) (m2 : qm), 0 ≤ k → k + x = 60 → q_fx (x_uM n) m0 m2 → q_fx (fun c _ => c = 195 ∨ c = 196) m1 m2 → m2 188 14 = 0 → m2 195 j = 0 → (∀ q, 0 ≤ q → q < k → m2 196 (60 * j + q) = R.2.1 3 j) → (∀ i, (n : Int) ≤ i → i < j → m2 195 i = 0 ∧ ∀ k, 0 ≤ k → k < 60 → m2 196 (60 * i + k) = R.2.1 3 i) →
        q_At yX12_town cX12_town 7 (some .int) 5 0 0 (qK (q_rb 198) (r_post n L R m0)) 262 [(2, 188), (0, R.2.1 7 0), (0, (w : Int)), (0, R.1), (0, v4), (0, j), (0, k)] [] (q_sh0, q_rb 198, m2) := by
      intro x
      induction x with
      | zero =>
        intro k m2 k0 hk F2 f2 g14 g195 g6 g5
        have : k = 60 := by omega
        subst this
        refine bkX12_town_262 (b := 198) (fun _ => q_in_of (by omega) (by omega)) (fun _ => ?_) (fun z => absurd z (by omega)) (fun z => absurd z (by omega))
        refine ih (j + 1) m2 (by omega) (by omega) F2 f2 g14 (fun i i0 i1 => ?_) v4
        by_cases q : i = j
        · rw [q]; exact ⟨g195, g6⟩
        · exact g5 i i0 (by omega)
      | succ x ihx =>
        intro k m2 k0 hk F2 f2 g14 g195 g6 g5
        have e192 : m2 192 j = R.2.1 3 j := by rw [f2 192 j (by simp)]; exact (g.1 j (by omega) (by omega)).2.2.1
        refine bkX12_town_262 (b := 198) (fun z => absurd z (by omega)) (fun z => absurd z (by omega)) (fun _ => ⟨q_in_of (by omega) (by omega), q_in_of (by omega) (by omega), by omega, by omega, q_in_of (by omega) (by omega)⟩) (fun _ => ?_)
        refine ihx (k + 1) _ (by omega) (by omega) (F2.up (Or.inr (Or.inr (Or.inr (Or.inl ⟨rfl, by omega⟩))))) (f2.up (Or.inr rfl)) ((q_up_c (by decide)).trans g14) ((q_up_c (by decide)).trans g195) (fun q q0 q1 => ?_) (fun i i0 i1 => ?_)
        · by_cases h : q = k
          · rw [h, q_up_s]; exact e192
          · rw [q_up_i (by omega)]; exact g6 q q0 (by omega)
        · rw [q_up_c (by decide)]
          refine ⟨(g5 i i0 i1).1, fun q q0 q1 => ?_⟩
          rw [q_up_i (by omega)]; exact (g5 i i0 i1).2 q q0 q1
    refine go 60 0 _ (by decide) (by decide) (F.up (Or.inr (Or.inr (Or.inl ⟨rfl, by omega⟩)))) (f1.up (Or.inl rfl)) ((q_up_c (by decide)).trans h14) q_up_s (fun q q0 q1 => by omega) (fun i i0 i1 => ?_)
    rw [q_up_i (by omega)]
    refine ⟨(h5 i i0 i1).1, fun k k0 k1 => ?_⟩
    rw [q_up_c (by decide)]; exact (h5 i i0 i1).2 k k0 k1
end TOWNR2
