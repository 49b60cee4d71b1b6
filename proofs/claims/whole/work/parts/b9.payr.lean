/-! ===== the reference's states ===== -/
def r_hx (g : Int → Int) : Nat → Int → Int
  | 0, c => c
  | k + 1, c => q_w32 (q_w32 (31 * r_hx g k c) + g k)
def r_h (n : Nat) (f : Int → Int) : Int := q_oiand (q_oixor (r_hx (fun d => f (9 + d)) 36 (r_hx f n 7)) (q_oiushr (r_hx (fun d => f (9 + d)) 36 (r_hx f n 7)) 13)) 8191
theorem r_hx_en {f g : Int → Int} {c : Int} : ∀ k : Nat, (∀ j : Int, 0 ≤ j → j < k → f j = g j) → r_hx f k c = r_hx g k c
  | 0, _ => rfl
  | k + 1, h => by
    simp only [r_hx]
    rw [r_hx_en k (fun j a b => h j a (by omega)), h k (by omega) (by omega)]
theorem r_h_en {n : Nat} {f g : Int → Int} (h : b_like n f g) : r_h n f = r_h n g := by
  unfold r_h
  rw [r_hx_en (f := f) (g := g) n h.1, r_hx_en (f := fun d => f (9 + d)) (g := fun d => g (9 + d)) 36 (fun j a b => h.2 j a (by omega))]
theorem r_h_r {n : Nat} {f : Int → Int} : 0 ≤ r_h n f ∧ r_h n f < 8192 := b_and13
def r_sT (m : qm) (i : Int) (n : Nat) (f : Int → Int) : Prop := (∀ j : Int, 0 ≤ j → j < n → m 211 (45 * i + j) = f j) ∧ ∀ d : Int, 0 ≤ d → d < 36 → m 211 (45 * i + 9 + d) = f (9 + d)
def r_cu (m : qm) (n : Nat) (f : Int → Int) : Prop := (∀ j : Int, 0 ≤ j → j < n → m 207 j = f j) ∧ ∀ d : Int, 0 ≤ d → d < 36 → m 216 d = f (9 + d)
def b_pv (Q : b_Q) : Prop := ∀ i, 0 < i → i < Q.1 → 0 ≤ Q.2.2.1 i ∧ Q.2.2.1 i < i
def r_Qs (m : qm) (n : Nat) (Q : b_Q) : Prop := m 188 42 = Q.1 ∧ (∀ i, 0 ≤ i → i < Q.1 → r_sT m i n (Q.2.1 i)) ∧ (∀ i, 0 < i → i < Q.1 → m 213 i = Q.2.2.1 i ∧ m 214 i = Q.2.2.2 i) ∧ (∀ i, 0 ≤ i → i < Q.1 → m 212 i = b_dep Q.2.2.1 i.toNat i) ∧ b_H (m 215) 8192 (fun i => r_h n (Q.2.1 i)) Q.1
abbrev x_adR (c i : Int) : Prop := (211 ≤ c ∧ c ≤ 215) ∨ (c = 188 ∧ i = 42)
theorem b_dep_en {par par' : Int → Int} {cnt : Int} (hp : ∀ i, 0 < i → i < cnt → 0 ≤ par i ∧ par i < i) (he : ∀ i, 0 < i → i < cnt → par' i = par i) : ∀ (k : Nat) (i : Int), i < cnt → b_dep par' k i = b_dep par k i
  | 0, _, _ => rfl
  | k + 1, i, hi => by
    show (if 0 < i then 1 + b_dep par' k (par' i) else 0) = (if 0 < i then 1 + b_dep par k (par i) else 0)
    by_cases c : 0 < i
    · rw [if_pos c, if_pos c, he i c hi, b_dep_en hp he k (par i) (by have := hp i c hi; omega)]
    · rw [if_neg c, if_neg c]
section PAYR
variable {b : Int} {m : qm} {n : Nat} {T : a_T}
theorem sp_loadR (hn : m 188 0 = n) (h9 : n ≤ 9) {v : Int} (hv : 0 ≤ v ∧ v < 3000) {f : Int → Int} (h : r_sT m v n f) : q_Ev yX12_load cX12_load 3 none 1 0 0 [(2, 188), (0, v)] (q_sh0, q_rb b, m) (qK (q_rb b) (fun _ m' => r_cu m' n f ∧ q_fx (fun c _ => c = 207 ∨ c = 216) m m')) := by
  refine q_enter (by decide +kernel) (by simp) (Nat.le_of_ble_eq_true rfl) ?_
  have go2 : ∀ (d : Nat) (j : Int) (m' : qm), 0 ≤ j → j + d = 36 → (∀ i : Int, 0 ≤ i → i < n → m' 207 i = f i) → (∀ i : Int, 0 ≤ i → i < j → m' 216 i = f (9 + i)) → q_fx (fun c _ => c = 207 ∨ c = 216) m m' → q_At yX12_load cX12_load 3 none 1 0 0 (qK (q_rb b) (fun _ m' => r_cu m' n f ∧ q_fx (fun c _ => c = 207 ∨ c = 216) m m')) 35 [(2, 188), (0, v), (0, j)] [] (q_sh0, q_rb b, m') := by
    intro d
    induction d with
    | zero =>
      intro j m' j0 hj a1 a2 F
      exact bkX12_load_35 (fun _ => ⟨⟨a1, fun i i0 i1 => a2 i i0 (by omega)⟩, F⟩) (fun z => absurd z (by omega)) (fun z => absurd z (by omega))
    | succ d ih =>
      intro j m' j0 hj a1 a2 F
      refine bkX12_load_35 (fun z => absurd z (by omega)) (fun _ => ⟨q_in_of (by omega) (by omega), q_in_of (by omega) (by omega), q_in_of (by omega) (by omega), by omega, by omega, q_in_of (by omega) (by omega)⟩) (fun _ => ?_)
      refine ih (j + 1) _ (by omega) (by omega) (fun i i0 i1 => by rw [q_up_c (by decide)]; exact a1 i i0 i1) (fun i i0 i1 => ?_) (F.up (Or.inr rfl))
      by_cases e : i = j
      · rw [e, q_up_s, F 211 _ (by omega)]; exact h.2 j j0 (by omega)
      · rw [q_up_i e]; exact a2 i i0 (by omega)
  have go1 : ∀ (d : Nat) (j : Int) (m' : qm), 0 ≤ j → j + d = n → (∀ i : Int, 0 ≤ i → i < j → m' 207 i = f i) → q_fx (fun c _ => c = 207 ∨ c = 216) m m' → q_At yX12_load cX12_load 3 none 1 0 0 (qK (q_rb b) (fun _ m' => r_cu m' n f ∧ q_fx (fun c _ => c = 207 ∨ c = 216) m m')) 2 [(2, 188), (0, v), (0, j)] [] (q_sh0, q_rb b, m') := by
    intro d
    induction d with
    | zero =>
      intro j m' j0 hj a1 F
      have en : m' 188 0 = n := (F 188 0 (by decide)).trans hn
      exact bkX12_load_2 (fun _ => go2 36 0 m' (by decide) (by decide) (fun i i0 i1 => a1 i i0 (by omega)) (fun i i0 i1 => by omega) F) (fun z => absurd z (by omega)) (fun z => absurd z (by omega))
    | succ d ih =>
      intro j m' j0 hj a1 F
      have en : m' 188 0 = n := (F 188 0 (by decide)).trans hn
      refine bkX12_load_2 (fun z => absurd z (by omega)) (fun _ => ⟨q_in_of (by omega) (by omega), q_in_of (by omega) (by omega), by omega, by omega, q_in_of (by omega) (by omega)⟩) (fun _ => ?_)
      refine ih (j + 1) _ (by omega) (by omega) (fun i i0 i1 => ?_) (F.up (Or.inl rfl))
      by_cases e : i = j
      · rw [e, q_up_s, F 211 _ (by omega)]; exact h.1 j j0 (by omega)
      · rw [q_up_i e]; exact a1 i i0 (by omega)
  exact bkX12_load_0 (go1 n 0 m (by decide) (by omega) (fun i i0 i1 => by omega) q_fx.rf)
theorem sp_isStateR (hn : m 188 0 = n) (h9 : n ≤ 9) {v : Int} (hv : 0 ≤ v ∧ v < 3000) {f g : Int → Int} (h : r_sT m v n f) (hc : r_cu m n g) : q_Ev yX12_isState cX12_isState 3 (some .boolean) 1 0 0 [(2, 188), (0, v)] (q_sh0, q_rb b, m) (qK (q_rb b) (fun r m' => m' = m ∧ ((r = 1 ∧ b_like n f g) ∨ (r = 0 ∧ ¬ b_like n f g)))) := by
  refine q_enter (by decide +kernel) (by simp) (Nat.le_of_ble_eq_true rfl) ?_
  have go2 : ∀ (d : Nat) (j : Int), 0 ≤ j → j + d = 36 → (∀ i : Int, 0 ≤ i → i < n → f i = g i) → (∀ i : Int, 0 ≤ i → i < j → f (9 + i) = g (9 + i)) → q_At yX12_isState cX12_isState 3 (some .boolean) 1 0 0 (qK (q_rb b) (fun r m' => m' = m ∧ ((r = 1 ∧ b_like n f g) ∨ (r = 0 ∧ ¬ b_like n f g)))) 40 [(2, 188), (0, v), (0, j)] [] (q_sh0, q_rb b, m) := by
    intro d
    induction d with
    | zero =>
      intro j j0 hj a1 a2
      exact bkX12_isState_40 (fun _ => ⟨rfl, Or.inl ⟨rfl, a1, fun i i0 i1 => a2 i i0 (by omega)⟩⟩) (fun z => absurd z (by omega)) (fun z => absurd z (by omega)) (fun z => absurd z (by omega)) (fun z => absurd z (by omega))
    | succ d ih =>
      intro j j0 hj a1 a2
      have e1 := h.2 j j0 (by omega)
      have e2 := hc.2 j j0 (by omega)
      refine bkX12_isState_40 (fun z => absurd z (by omega)) (fun _ => ⟨q_in_of (by omega) (by omega), q_in_of (by omega) (by omega), q_in_of (by omega) (by omega), by omega, by omega⟩) (fun _ _ => q_in_of (by omega) (by omega)) (fun _ z => ?_) (fun _ z => ?_)
      · rw [e1, e2] at z
        refine ih (j + 1) (by omega) (by omega) a1 (fun i i0 i1 => ?_)
        by_cases e : i = j
        · rw [e]; exact z
        · exact a2 i i0 (by omega)
      · rw [e1, e2] at z
        exact ⟨rfl, Or.inr ⟨rfl, fun y => z (y.2 j j0 (by omega))⟩⟩
  have go1 : ∀ (d : Nat) (j : Int), 0 ≤ j → j + d = n → (∀ i : Int, 0 ≤ i → i < j → f i = g i) → q_At yX12_isState cX12_isState 3 (some .boolean) 1 0 0 (qK (q_rb b) (fun r m' => m' = m ∧ ((r = 1 ∧ b_like n f g) ∨ (r = 0 ∧ ¬ b_like n f g)))) 2 [(2, 188), (0, v), (0, j)] [] (q_sh0, q_rb b, m) := by
    intro d
    induction d with
    | zero =>
      intro j j0 hj a1
      exact bkX12_isState_2 (fun _ => go2 36 0 (by decide) (by decide) (fun i i0 i1 => a1 i i0 (by omega)) (fun i i0 i1 => by omega)) (fun z => absurd z (by omega)) (fun z => absurd z (by omega)) (fun z => absurd z (by omega)) (fun z => absurd z (by omega))
    | succ d ih =>
      intro j j0 hj a1
      have e1 := h.1 j j0 (by omega)
      have e2 := hc.1 j j0 (by omega)
      refine bkX12_isState_2 (fun z => absurd z (by omega)) (fun _ => ⟨q_in_of (by omega) (by omega), q_in_of (by omega) (by omega), by omega, by omega⟩) (fun _ _ => q_in_of (by omega) (by omega)) (fun _ z => ?_) (fun _ z => ?_)
      · rw [e1, e2] at z
        refine ih (j + 1) (by omega) (by omega) (fun i i0 i1 => ?_)
        by_cases e : i = j
        · rw [e]; exact z
        · exact a1 i i0 (by omega)
      · rw [e1, e2] at z
        exact ⟨rfl, Or.inr ⟨rfl, fun y => z (y.1 j j0 (by omega))⟩⟩
  exact bkX12_isState_0 (go1 n 0 (by decide) (by omega) (fun i i0 i1 => by omega))
theorem sp_isPaidR {f : Int → Int} (hc : r_cu m n f) (h : b_ok n T f) : q_Ev yX12_isPaid cX12_isPaid 5 (some .boolean) 1 0 0 [(2, 188)] (q_sh0, q_rb b, m) (qK (q_rb b) (fun r m' => m' = m ∧ ((r = 1 ∧ b_paid f) ∨ (r = 0 ∧ ¬ b_paid f)))) := by
  refine q_enter (by decide +kernel) (by simp) (Nat.le_of_ble_eq_true rfl) ?_
  have go : ∀ (d : Nat) (j : Int), 0 ≤ j → j + d = 36 → (∀ i : Int, 0 ≤ i → i < j → f (9 + i) = 0) → q_At yX12_isPaid cX12_isPaid 5 (some .boolean) 1 0 0 (qK (q_rb b) (fun r m' => m' = m ∧ ((r = 1 ∧ b_paid f) ∨ (r = 0 ∧ ¬ b_paid f)))) 10 [(2, 188), (2, 216), (0, 36), (0, j), (4, 0)] [] (q_sh0, q_rb b, m) := by
    intro d
    induction d with
    | zero =>
      intro j j0 hj a1
      exact bkX12_isPaid_10 (fun _ => ⟨rfl, Or.inl ⟨rfl, fun i i0 i1 => a1 i i0 (by omega)⟩⟩) (fun z => absurd z (by omega)) (fun z => absurd z (by omega)) (fun z => absurd z (by omega)) (fun z => absurd z (by omega))
    | succ d ih =>
      intro j j0 hj a1
      have e2 := hc.2 j j0 (by omega)
      have p := h.2.1 j j0 (by omega)
      refine bkX12_isPaid_10 (fun z => absurd z (by omega)) (fun _ => by omega) (fun _ _ => q_in_of (by omega) (by omega)) (fun _ z => ?_) (fun _ z => ⟨rfl, Or.inr ⟨rfl, fun y => ?_⟩⟩)
      · refine ih (j + 1) (by omega) (by omega) (fun i i0 i1 => ?_)
        by_cases e : i = j
        · rw [e]; omega
        · exact a1 i i0 (by omega)
      · have := y j j0 (by omega); omega
  exact bkX12_isPaid_0 (go 36 0 (by decide) (by decide) (fun i i0 i1 => by omega))
theorem sp_owedR (t : a_TV n T) (rT : r_T m n T) {f : Int → Int} (hc : r_cu m n f) (h : b_ok n T f) {x y : Int} (hx : 0 ≤ x ∧ x < n) (hy : 0 ≤ y ∧ y < n) : q_Ev yX12_owedBetween cX12_owedBetween 4 (some .int) 1 0 0 [(2, 188), (0, x), (0, y)] (q_sh0, q_rb b, m) (qK (q_rb b) (fun r m' => m' = m ∧ r = b_due T f x y)) := by
  have n9 := t.1
  have tx := t.2 x hx.1 hx.2
  have ty := t.2 y hy.1 hy.2
  have ex : m 192 x = T.2.1 x := rT.2.2.1 x hx.1 hx.2
  have ey : m 192 y = T.2.1 y := rT.2.2.1 y hy.1 hy.2
  have e2 : m 189 y = T.1 y := rT.2.1 y hy.1 hy.2
  have lx := hc.1 x hx.1 hx.2
  have ly := hc.1 y hy.1 hy.2
  have fy := h.1 y hy.1 hy.2
  refine q_enter (by decide +kernel) (by simp) (Nat.le_of_ble_eq_true rfl) ?_
  refine bkX12_owedBetween_0 (by omega) (fun z => ?_) (fun z => ⟨rfl, ?_⟩) (fun z => q_in_of (by omega) (by omega)) (fun z => ⟨rfl, ?_⟩)
  · rw [ex, ey]; exact ⟨q_in_of (by omega) (by omega), q_in_of (by omega) (by omega), by omega, q_in_of (by omega) (by omega)⟩
  · have ed := hc.2 (6 * m 192 x + m 192 y) (by omega) (by omega)
    rw [ed, lx, ly, e2, ex, ey]; rfl
  · rw [ex, ey] at z
    have z0 := h.2.2 (T.2.1 x) (by omega) (by omega)
    unfold b_due
    rw [lx, ly, e2, ← z, show 9 + (6 * T.2.1 x + T.2.1 x) = 9 + 7 * T.2.1 x by omega, z0]
end PAYR
