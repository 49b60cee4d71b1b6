/-! ===== settle ===== -/
def a_up (D : Int → Int) (i v : Int) : Int → Int := fun d => if d = i then v else D d
def a_e36 (f g : Int → Int) : Prop := ∀ d, 0 ≤ d → d < 36 → f d = g d
theorem a_e36.up {m : qm} {c : Int} {D : Int → Int} (h : a_e36 (m c) D) (i : Int) {v w : Int} (e : v = w) : a_e36 (q_up m c i v c) (a_up D i w) := fun d a b => by
  unfold a_up
  by_cases hd : d = i
  · subst hd; rw [q_up_s, if_pos rfl, e]
  · rw [q_up_i hd, if_neg hd]; exact h d a b
def a_DV (D : Int → Int) : Prop := (∀ d, 0 ≤ d → d < 36 → 0 ≤ D d ∧ D d ≤ 999) ∧ ∀ x, 0 ≤ x → x < 6 → D (7 * x) = 0
theorem a_DV.up {D : Int → Int} (h : a_DV D) {i v : Int} (h0 : 0 ≤ v) (h1 : v ≤ 999) (hz : (∃ x, 0 ≤ x ∧ x < 6 ∧ i = 7 * x) → v = 0) : a_DV (a_up D i v) := by
  refine ⟨fun d a b => ?_, fun x a b => ?_⟩
  · unfold a_up; split
    · exact ⟨h0, h1⟩
    · exact h.1 d a b
  · unfold a_up; split
    · rename_i e; exact hz ⟨x, a, b, e.symm⟩
    · exact h.2 x a b
theorem a_up_s {D : Int → Int} {i v : Int} : a_up D i v i = v := by unfold a_up; rw [if_pos rfl]
theorem a_up_n {D : Int → Int} {i v d : Int} (h : d ≠ i) : a_up D i v d = D d := by unfold a_up; rw [if_neg h]
theorem a_up_sum {D : Int → Int} {i v : Int} (h0 : 0 ≤ i) (h1 : i < 36) : g_s (a_up D i v) 36 = g_s D 36 + (v - D i) := by
  have := g_s_up (f := D) (g := a_up D i v) (t := i) (n := 36) h0 h1 (fun j _ _ hj => a_up_n hj)
  rw [this, a_up_s]
/-- two debts set off against each other -/
def a_off (D : Int → Int) (x y : Int) : Int → Int := a_up (a_up D (6 * x + y) (D (6 * x + y) - min (D (6 * x + y)) (D (6 * y + x)))) (6 * y + x) (D (6 * y + x) - min (D (6 * x + y)) (D (6 * y + x)))
theorem a_off_ok {D : Int → Int} (h : a_DV D) {x y : Int} (hx : 0 ≤ x ∧ x < 6) (hy : 0 ≤ y ∧ y < 6) (hne : x ≠ y) : a_DV (a_off D x y) ∧ g_s (a_off D x y) 36 ≤ g_s D 36 := by
  have d1 := h.1 (6 * x + y) (by omega) (by omega)
  have d2 := h.1 (6 * y + x) (by omega) (by omega)
  constructor
  · exact (h.up (by omega) (by omega) (fun ⟨z, _, _, e⟩ => by omega)).up (by omega) (by omega) (fun ⟨z, _, _, e⟩ => by omega)
  · unfold a_off
    rw [a_up_sum (by omega) (by omega), a_up_sum (by omega) (by omega), a_up_n (by omega)]
    omega
def a_pass (D : Int → Int) (x y z : Int) : Int → Int := a_off (a_up (a_up (a_up D (6 * x + y) (D (6 * x + y) - min (D (6 * x + y)) (D (6 * y + z)))) (6 * y + z) (D (6 * y + z) - min (D (6 * x + y)) (D (6 * y + z)))) (6 * x + z) (min 999 (D (6 * x + z) + min (D (6 * x + y)) (D (6 * y + z))))) x z
def a_tr (D : Int → Int) (x y z : Int) : Prop := (0 ≤ x ∧ x < 6) ∧ (0 ≤ y ∧ y < 6) ∧ (0 ≤ z ∧ z < 6) ∧ x ≠ y ∧ y ≠ z ∧ x ≠ z ∧ 0 < D (6 * x + y) ∧ 0 < D (6 * y + z)
def a_fs (D : Int → Int) (x y z : Int) : Prop := a_tr D x y z ∧ ∀ x' y' z', a_tr D x' y' z' → 36 * x + 6 * y + z ≤ 36 * x' + 6 * y' + z'
theorem a_fs.un {D : Int → Int} {x y z x' y' z' : Int} (h : a_fs D x y z) (h' : a_fs D x' y' z') : x = x' ∧ y = y' ∧ z = z' := by
  have a := h.2 _ _ _ h'.1
  have b := h'.2 _ _ _ h.1
  obtain ⟨t1, t2, t3, -⟩ := h.1
  obtain ⟨s1, s2, s3, -⟩ := h'.1
  omega
theorem a_tr.en {D E : Int → Int} (e : a_e36 D E) {x y z : Int} (h : a_tr D x y z) : a_tr E x y z := by
  obtain ⟨a, b, c, d, f, g, h1, h2⟩ := h
  exact ⟨a, b, c, d, f, g, by rw [← e _ (by omega) (by omega)]; exact h1, by rw [← e _ (by omega) (by omega)]; exact h2⟩
theorem a_e36.sy {f g : Int → Int} (h : a_e36 f g) : a_e36 g f := fun d a b => (h d a b).symm
theorem a_fs.en {D E : Int → Int} (e : a_e36 D E) {x y z : Int} (h : a_fs D x y z) : a_fs E x y z := ⟨h.1.en e, fun x' y' z' t => h.2 _ _ _ (t.en e.sy)⟩
theorem a_min {p : Nat → Prop} : ∀ t : Nat, p t → ∃ t, p t ∧ ∀ s, s < t → ¬ p s := by
  intro t
  induction t using Nat.strongRecOn with
  | _ t ih =>
    intro h
    by_cases c : ∃ s, s < t ∧ p s
    · obtain ⟨s, hs, ps⟩ := c; exact ih s hs ps
    · exact ⟨t, h, fun s hs ps => c ⟨s, hs, ps⟩⟩
theorem a_fs_ex {D : Int → Int} {x y z : Int} (h : a_tr D x y z) : ∃ x y z, a_fs D x y z := by
  obtain ⟨t, ⟨x, y, z, h1, h2⟩, h3⟩ := a_min (p := fun t => ∃ x y z, a_tr D x y z ∧ 36 * x + 6 * y + z = (t : Int)) (36 * x + 6 * y + z).toNat ⟨x, y, z, h, by have := h.1; have := h.2.1; have := h.2.2.1; omega⟩
  refine ⟨x, y, z, h1, fun x' y' z' t' => ?_⟩
  by_cases c : 36 * x + 6 * y + z ≤ 36 * x' + 6 * y' + z'
  · exact c
  · have a := t'.1; have b := t'.2.1; have d := t'.2.2.1
    exact absurd ⟨x', y', z', t', by omega⟩ (h3 (36 * x' + 6 * y' + z').toNat (by omega))
theorem a_pass_ok {D : Int → Int} (h : a_DV D) {x y z : Int} (t : a_tr D x y z) : a_DV (a_pass D x y z) ∧ g_s (a_pass D x y z) 36 < g_s D 36 := by
  obtain ⟨a, b, c, d, f, g, h1, h2⟩ := t
  have d1 := h.1 (6 * x + y) (by omega) (by omega)
  have d2 := h.1 (6 * y + z) (by omega) (by omega)
  have d3 := h.1 (6 * x + z) (by omega) (by omega)
  have v := ((h.up (i := 6 * x + y) (v := D (6 * x + y) - min (D (6 * x + y)) (D (6 * y + z))) (by omega) (by omega) (fun ⟨w, _, _, e⟩ => by omega)).up (i := 6 * y + z) (v := D (6 * y + z) - min (D (6 * x + y)) (D (6 * y + z))) (by omega) (by omega) (fun ⟨w, _, _, e⟩ => by omega)).up (i := 6 * x + z) (v := min 999 (D (6 * x + z) + min (D (6 * x + y)) (D (6 * y + z)))) (by omega) (by omega) (fun ⟨w, _, _, e⟩ => by omega)
  have o := a_off_ok v a c g
  refine ⟨o.1, ?_⟩
  have s := o.2
  rw [a_up_sum (by omega) (by omega), a_up_sum (by omega) (by omega), a_up_sum (by omega) (by omega), a_up_n (show 6 * x + z ≠ 6 * y + z by omega), a_up_n (show 6 * x + z ≠ 6 * x + y by omega), a_up_n (show 6 * y + z ≠ 6 * x + y by omega)] at s
  show g_s (a_off _ x z) 36 < _
  omega
/-- the rows that settle takes -/
theorem a_rows : ∀ (s : Nat) (D : Int → Int), a_DV D → g_s D 36 ≤ s → ∃ (N : Nat) (E : Nat → Int → Int), N ≤ s ∧ E 0 = D ∧ (∀ i, i ≤ N → a_DV (E i)) ∧ (∀ i, i < N → ∃ x y z, a_fs (E i) x y z ∧ E (i + 1) = a_pass (E i) x y z) ∧ ∀ x y z, ¬ a_tr (E N) x y z := by
  intro s
  induction s with
  | zero =>
    intro D h hs
    refine ⟨0, fun _ => D, by omega, rfl, fun _ _ => h, fun i hi => absurd hi (by omega), fun x y z t => ?_⟩
    have p := g_s_pos (f := D) (n := 36) (fun j a b => (h.1 j a b).1) ⟨6 * x + y, by have := t.1; have := t.2.1; omega, by have := t.1; have := t.2.1; omega, t.2.2.2.2.2.2.1⟩
    omega
  | succ s ih =>
    intro D h hs
    by_cases c : ∃ x y z, a_tr D x y z
    · obtain ⟨x, y, z, t⟩ := c
      obtain ⟨x, y, z, f⟩ := a_fs_ex t
      have p := a_pass_ok h f.1
      obtain ⟨N, E, h1, h2, h3, h4, h5⟩ := ih (a_pass D x y z) p.1 (by omega)
      refine ⟨N + 1, fun i => match i with | 0 => D | i + 1 => E i, by omega, rfl, fun i hi => ?_, fun i hi => ?_, h5⟩
      · cases i with
        | zero => exact h
        | succ i => exact h3 i (by omega)
      · cases i with
        | zero => exact ⟨x, y, z, f, h2⟩
        | succ i => exact h4 i (by omega)
    · exact ⟨0, fun _ => D, by omega, rfl, fun _ _ => h, fun i hi => absurd hi (by omega), fun x y z t => c ⟨x, y, z, t⟩⟩
/-- all set off at once -/
def a_all (D : Int → Int) (x y : Int) : Int := D (6 * x + y) - min (D (6 * x + y)) (D (6 * y + x))
theorem sp_setOffC {b x y : Int} {m : qm} {D : Int → Int} (h : a_e36 (m 12) D) (v : a_DV D) (hx : 0 ≤ x ∧ x < 6) (hy : 0 ≤ y ∧ y < 6) (hne : x ≠ y) : q_Ev yX7_setOff cX7_setOff 6 none 1 0 0 [(2, 5), (0, x), (0, y)] (q_sh0, q_rb b, m) (qK (q_rb b) (fun _ m' => a_e36 (m' 12) (a_off D x y) ∧ q_fx (fun c _ => c = 12) m m')) := by
  have e1 := h (6 * x + y) (by omega) (by omega)
  have e2 := h (6 * y + x) (by omega) (by omega)
  have d1 := v.1 (6 * x + y) (by omega) (by omega)
  have d2 := v.1 (6 * y + x) (by omega) (by omega)
  have c1 : x * 6 + y = 6 * x + y := by omega
  have c2 : y * 6 + x = 6 * y + x := by omega
  refine q_enter (by decide +kernel) (by simp) (Nat.le_of_ble_eq_true rfl) ?_
  refine bkX7_setOff_0 q_st5 ?_ ?_
  · rw [c1, c2, q_up_i (show 6 * y + x ≠ 6 * x + y by omega)]
    simp only [show (5 : Int) + 7 = 12 from rfl]
    rw [e1, e2]
    exact ⟨q_in_of (by omega) (by omega), q_in_of (by omega) (by omega), q_in_of (by omega) (by omega), q_in_of (by omega) (by omega), by omega, by omega, q_in_of (by omega) (by omega), q_in_of (by omega) (by omega)⟩
  · rw [c1, c2, q_up_i (show 6 * y + x ≠ 6 * x + y by omega)]
    simp only [show (5 : Int) + 7 = 12 from rfl]
    exact ⟨(h.up _ (by rw [e1, e2])).up _ (by rw [e1, e2]), ((q_fx.rf (X := fun c _ => c = 12)).up rfl).up rfl⟩
theorem sp_setOffM {b x y : Int} {m : qm} {D : Int → Int} (h : a_e36 (m 197) D) (v : a_DV D) (hx : 0 ≤ x ∧ x < 6) (hy : 0 ≤ y ∧ y < 6) (hne : x ≠ y) : q_Ev yX12_setOff cX12_setOff 4 none 1 0 0 [(2, 188), (0, x), (0, y)] (q_sh0, q_rb b, m) (qK (q_rb b) (fun _ m' => a_e36 (m' 197) (a_off D x y) ∧ q_fx (fun c _ => c = 197) m m')) := by
  have e1 := h (6 * x + y) (by omega) (by omega)
  have e2 := h (6 * y + x) (by omega) (by omega)
  have d1 := v.1 (6 * x + y) (by omega) (by omega)
  have d2 := v.1 (6 * y + x) (by omega) (by omega)
  refine q_enter (by decide +kernel) (by simp) (Nat.le_of_ble_eq_true rfl) ?_
  refine bkX12_setOff_0 ?_ ?_
  · rw [q_up_i (show 6 * y + x ≠ 6 * x + y by omega), e1, e2]
    exact ⟨q_in_of (by omega) (by omega), q_in_of (by omega) (by omega), by omega, q_in_of (by omega) (by omega), q_in_of (by omega) (by omega), by omega, q_in_of (by omega) (by omega), q_in_of (by omega) (by omega)⟩
  · rw [q_up_i (show 6 * y + x ≠ 6 * x + y by omega)]
    exact ⟨(h.up _ (by rw [e1, e2])).up _ (by rw [e1, e2]), ((q_fx.rf (X := fun c _ => c = 197)).up rfl).up rfl⟩
theorem sp_passOn {b x y z : Int} {m : qm} {D : Int → Int} (h : a_e36 (m 12) D) (v : a_DV D) (t : a_tr D x y z) : q_Ev yX7_passOn cX7_passOn 6 none 2 0 0 [(2, 5), (0, x), (0, y), (0, z)] (q_sh0, q_rb b, m) (qK (q_rb b) (fun _ m' => a_e36 (m' 12) (a_pass D x y z) ∧ q_fx (fun c _ => c = 12) m m')) := by
  obtain ⟨hx, hy, hz, n1, n2, n3, p1, p2⟩ := t
  have e1 := h (6 * x + y) (by omega) (by omega)
  have e2 := h (6 * y + z) (by omega) (by omega)
  have e3 := h (6 * x + z) (by omega) (by omega)
  have d1 := v.1 (6 * x + y) (by omega) (by omega)
  have d2 := v.1 (6 * y + z) (by omega) (by omega)
  have d3 := v.1 (6 * x + z) (by omega) (by omega)
  have c1 : x * 6 + y = 6 * x + y := by omega
  have c2 : y * 6 + z = 6 * y + z := by omega
  have c3 : x * 6 + z = 6 * x + z := by omega
  refine q_enter (by decide +kernel) (by simp) (Nat.le_of_ble_eq_true rfl) ?_
  refine bkX7_passOn_0 q_st5 (P1 := fun _ m' => a_e36 (m' 12) (a_pass D x y z) ∧ q_fx (fun c _ => c = 12) m m') ?_ ?_ (fun _ _ h _ => h)
  · rw [c1, c2, c3, q_up_i (show 6 * y + z ≠ 6 * x + y by omega), q_up_i (show 6 * x + z ≠ 6 * y + z by omega), q_up_i (show 6 * x + z ≠ 6 * x + y by omega)]
    simp only [show (5 : Int) + 7 = 12 from rfl]
    rw [e1, e2, e3]
    exact ⟨q_in_of (by omega) (by omega), q_in_of (by omega) (by omega), by omega, q_in_of (by omega) (by omega), q_in_of (by omega) (by omega), by omega, q_in_of (by omega) (by omega), q_in_of (by omega) (by omega), q_in_of (by omega) (by omega), by omega, q_in_of (by omega) (by omega)⟩
  · rw [c1, c2, c3, q_up_i (show 6 * y + z ≠ 6 * x + y by omega), q_up_i (show 6 * x + z ≠ 6 * y + z by omega), q_up_i (show 6 * x + z ≠ 6 * x + y by omega)]
    simp only [show (5 : Int) + 7 = 12 from rfl]
    have v' := ((v.up (i := 6 * x + y) (v := D (6 * x + y) - min (D (6 * x + y)) (D (6 * y + z))) (by omega) (by omega) (fun ⟨w, _, _, e⟩ => by omega)).up (i := 6 * y + z) (v := D (6 * y + z) - min (D (6 * x + y)) (D (6 * y + z))) (by omega) (by omega) (fun ⟨w, _, _, e⟩ => by omega)).up (i := 6 * x + z) (v := min 999 (D (6 * x + z) + min (D (6 * x + y)) (D (6 * y + z)))) (by omega) (by omega) (fun ⟨w, _, _, e⟩ => by omega)
    exact (sp_setOffC (((h.up _ (by rw [e1, e2])).up _ (by rw [e1, e2])).up _ (by rw [e1, e2, e3])) v' hx hz n3).post (fun r m' w => ⟨w.1, ((((q_fx.rf (X := fun c _ => c = 12)).up rfl).up rfl).up rfl).tr w.2⟩)
