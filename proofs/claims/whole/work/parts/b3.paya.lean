/-! ===== states that pourings bring, told apart from both memories ===== -/
noncomputable def q_if {α : Type} (P : Prop) (a b : α) : α := @ite α P (Classical.propDecidable P) a b
theorem q_if_pos {α : Type} {P : Prop} {a b : α} (h : P) : q_if P a b = a := by unfold q_if; rw [if_pos h]
theorem q_if_neg {α : Type} {P : Prop} {a b : α} (h : ¬ P) : q_if P a b = b := by unfold q_if; rw [if_neg h]
/-- numbers in one -/
def b_pk (c : Nat) (f : Int → Int) : Nat → Nat
  | 0 => 0
  | k + 1 => b_pk c f k + (f k).toNat * c ^ k
theorem b_pk_lt {c : Nat} {f : Int → Int} (hc : 0 < c) : ∀ k : Nat, (∀ j : Int, 0 ≤ j → j < k → 0 ≤ f j ∧ f j < c) → b_pk c f k < c ^ k
  | 0, _ => by simp [b_pk]
  | k + 1, h => by
    have a := b_pk_lt hc k (fun j j0 j1 => h j j0 (by omega))
    have q := h k (by omega) (by omega)
    show b_pk c f k + (f k).toNat * c ^ k < c ^ (k + 1)
    have e : (f k).toNat + 1 ≤ c := by omega
    have := Nat.mul_le_mul_right (c ^ k) e
    rw [Nat.pow_succ, Nat.mul_comm (c ^ k) c]
    rw [Nat.add_mul, Nat.one_mul] at this
    omega
theorem b_pk_ext {c : Nat} {f g : Int → Int} : ∀ k : Nat, (∀ j : Int, 0 ≤ j → j < k → f j = g j) → b_pk c f k = b_pk c g k
  | 0, _ => rfl
  | k + 1, h => by
    show b_pk c f k + (f k).toNat * c ^ k = b_pk c g k + (g k).toNat * c ^ k
    rw [b_pk_ext k (fun j a b => h j a (by omega)), h k (by omega) (by omega)]
theorem b_pk_dig {c : Nat} {f : Int → Int} (hc : 0 < c) : ∀ k j : Nat, j < k → (∀ j : Int, 0 ≤ j → j < k → 0 ≤ f j ∧ f j < c) → b_pk c f k / c ^ j % c = (f j).toNat := by
  intro k
  induction k with
  | zero => intro j hj; omega
  | succ k ih =>
    intro j hj h
    have hk := b_pk_lt hc k (fun j a b => h j a (by omega))
    show (b_pk c f k + (f k).toNat * c ^ k) / c ^ j % c = _
    by_cases e : j = k
    · subst e
      have q := h j (by omega) (by omega)
      rw [Nat.add_mul_div_right _ _ (Nat.pow_pos hc), Nat.div_eq_of_lt hk, Nat.zero_add]
      exact Nat.mod_eq_of_lt (by omega)
    · have e2 : (f k).toNat * c ^ k = (f k).toNat * c ^ (k - j - 1) * c * c ^ j := by
        rw [Nat.mul_assoc ((f k).toNat * c ^ (k - j - 1)), ← Nat.pow_succ', Nat.mul_assoc, ← Nat.pow_add, show k - j - 1 + (j + 1) = k by omega]
      rw [e2, Nat.add_mul_div_right _ _ (Nat.pow_pos hc), Nat.add_mul_mod_self_right]
      exact ih j (by omega) (fun j a b => h j a (by omega))
theorem b_pk_inj {c : Nat} {f g : Int → Int} (hc : 0 < c) {k : Nat} (hf : ∀ j : Int, 0 ≤ j → j < k → 0 ≤ f j ∧ f j < c) (hg : ∀ j : Int, 0 ≤ j → j < k → 0 ≤ g j ∧ g j < c) : b_pk c f k = b_pk c g k ↔ ∀ j : Int, 0 ≤ j → j < k → f j = g j := by
  refine ⟨fun h j j0 j1 => ?_, fun h => b_pk_ext k h⟩
  have a := b_pk_dig (f := f) hc k j.toNat (by omega) hf
  have b := b_pk_dig (f := g) hc k j.toNat (by omega) hg
  rw [h, b] at a
  have q1 := hf j j0 j1
  have q2 := hg j j0 j1
  rw [show ((j.toNat : Nat) : Int) = j by omega] at a
  omega
theorem b_pk_up {c : Nat} {f g : Int → Int} {j : Nat} (hne : ∀ i : Int, i ≠ j → g i = f i) (hf : 0 ≤ f j) (hg : 0 ≤ g j) : ∀ k : Nat, j < k → (b_pk c g k : Int) = b_pk c f k + (g j - f j) * ((c ^ j : Nat) : Int) := by
  intro k
  induction k with
  | zero => intro h; omega
  | succ k ih =>
    intro h
    show ((b_pk c g k + (g k).toNat * c ^ k : Nat) : Int) = ((b_pk c f k + (f k).toNat * c ^ k : Nat) : Int) + _
    by_cases e : j = k
    · subst e
      rw [b_pk_ext j (fun i a b => hne i (by omega)), Int.natCast_add, Int.natCast_add, Int.natCast_mul, Int.natCast_mul, Int.toNat_of_nonneg hf, Int.toNat_of_nonneg hg, Int.sub_mul]
      omega
    · rw [Int.natCast_add, ih (by omega), hne k (by omega), Int.natCast_add]
      omega
/-- how many, the states, whence, by which pouring -/
abbrev b_Q : Type := Int × (Int → Int → Int) × (Int → Int) × (Int → Int)
def b_like (n : Nat) (f g : Int → Int) : Prop := (∀ j : Int, 0 ≤ j → j < n → f j = g j) ∧ ∀ d : Int, 0 ≤ d → d < 36 → f (9 + d) = g (9 + d)
def b_in (n : Nat) (Q : b_Q) (N : Int → Int) : Prop := ∃ j, 0 ≤ j ∧ j < Q.1 ∧ b_like n (Q.2.1 j) N
def b_app (Q : b_Q) (N : Int → Int) (p w : Int) : b_Q := (Q.1 + 1, fun i => if i = Q.1 then N else Q.2.1 i, fun i => if i = Q.1 then p else Q.2.2.1 i, fun i => if i = Q.1 then w else Q.2.2.2 i)
noncomputable def b_add (n : Nat) (Q : b_Q) (N : Int → Int) (p w : Int) : Int × b_Q := q_if (b_in n Q N) (1, Q) (if Q.1 < 3000 then (1, b_app Q N p w) else (0, Q))
def b_due (T : a_T) (f : Int → Int) (x y : Int) : Int := min (f (9 + (6 * T.2.1 x + T.2.1 y))) (min (f x) (T.1 y - f y))
def b_nx (T : a_T) (f : Int → Int) (x y w : Int) : Int → Int := fun i => if i = x then f x - w else if i = y then f y + w else if i = 9 + (6 * T.2.1 x + T.2.1 y) then f i - w else f i
noncomputable def b_one (n : Nat) (T : a_T) (i x y : Int) (Q : b_Q) : Int × b_Q := if 0 < b_due T (Q.2.1 i) x y then b_add n Q (b_nx T (Q.2.1 i) x y (b_due T (Q.2.1 i) x y)) i (1000 * x + 100 * y + b_due T (Q.2.1 i) x y) else (1, Q)
noncomputable def b_B (n : Nat) (T : a_T) (i x : Int) : Nat → Int → b_Q → Int × b_Q
  | 0, _, Q => (1, Q)
  | d + 1, y, Q => if (b_one n T i x y Q).1 = 0 then b_one n T i x y Q else b_B n T i x d (y + 1) (b_one n T i x y Q).2
noncomputable def b_A (n : Nat) (T : a_T) (i : Int) : Nat → Int → b_Q → Int × b_Q
  | 0, _, Q => (1, Q)
  | d + 1, x, Q => if (b_B n T i x n 0 Q).1 = 0 then b_B n T i x n 0 Q else b_A n T i d (x + 1) (b_B n T i x n 0 Q).2
noncomputable def b_I (n : Nat) (T : a_T) : Nat → Int → b_Q → Int × b_Q
  | 0, _, Q => (1, Q)
  | d + 1, i, Q => if i < Q.1 then (if (b_A n T i n 0 Q).1 = 0 then b_A n T i n 0 Q else b_I n T d (i + 1) (b_A n T i n 0 Q).2) else (1, Q)
/-- a state as it must be -/
def b_ok (n : Nat) (T : a_T) (f : Int → Int) : Prop := (∀ j : Int, 0 ≤ j → j < n → 0 ≤ f j ∧ f j ≤ T.1 j) ∧ (∀ d : Int, 0 ≤ d → d < 36 → 0 ≤ f (9 + d) ∧ f (9 + d) ≤ 999) ∧ ∀ o : Int, 0 ≤ o → o < 6 → f (9 + 7 * o) = 0
def b_QV (n : Nat) (T : a_T) (Q : b_Q) : Prop := 1 ≤ Q.1 ∧ Q.1 ≤ 3000 ∧ (∀ i, 0 ≤ i → i < Q.1 → b_ok n T (Q.2.1 i)) ∧ ∀ i, 0 < i → i < Q.1 → 0 ≤ Q.2.2.1 i ∧ Q.2.2.1 i < i
theorem b_due_p {n : Nat} {T : a_T} (t : a_TV n T) {f : Int → Int} (h : b_ok n T f) {x y : Int} (hx : 0 ≤ x ∧ x < n) (hy : 0 ≤ y ∧ y < n) (hw : 0 < b_due T f x y) : T.2.1 x ≠ T.2.1 y ∧ x ≠ y ∧ b_due T f x y ≤ f x ∧ b_due T f x y ≤ T.1 y - f y ∧ b_due T f x y ≤ f (9 + (6 * T.2.1 x + T.2.1 y)) := by
  have ne : T.2.1 x ≠ T.2.1 y := by
    intro e
    have tx := t.2 x hx.1 hx.2
    have z := h.2.2 (T.2.1 x) (by omega) (by omega)
    unfold b_due at hw
    rw [← e, show 9 + (6 * T.2.1 x + T.2.1 x) = 9 + 7 * T.2.1 x by omega, z] at hw
    omega
  refine ⟨ne, fun e => ne (by rw [e]), ?_, ?_, ?_⟩ <;> unfold b_due <;> omega
theorem b_ok.nx {n : Nat} {T : a_T} (t : a_TV n T) {f : Int → Int} (h : b_ok n T f) {x y : Int} (hx : 0 ≤ x ∧ x < n) (hy : 0 ≤ y ∧ y < n) (hw : 0 < b_due T f x y) : b_ok n T (b_nx T f x y (b_due T f x y)) := by
  obtain ⟨p1, p2, p3, p4, p5⟩ := b_due_p t h hx hy hw
  have tx := t.2 x hx.1 hx.2
  have ty := t.2 y hy.1 hy.2
  have n9 := t.1
  refine ⟨fun j j0 j1 => ?_, fun d d0 d1 => ?_, fun o o0 o1 => ?_⟩
  · have hj := h.1 j j0 j1
    have hhx := h.1 x hx.1 hx.2
    have hhy := h.1 y hy.1 hy.2
    unfold b_nx
    by_cases e1 : j = x
    · rw [if_pos e1, e1]; omega
    · rw [if_neg e1]
      by_cases e2 : j = y
      · rw [if_pos e2, e2]; omega
      · rw [if_neg e2, if_neg (by omega)]; exact hj
  · have hd := h.2.1 d d0 d1
    unfold b_nx
    rw [if_neg (by omega), if_neg (by omega)]
    by_cases e : 9 + d = 9 + (6 * T.2.1 x + T.2.1 y)
    · rw [if_pos e]; rw [← e] at p5; omega
    · rw [if_neg e]; exact hd
  · unfold b_nx
    rw [if_neg (by omega), if_neg (by omega), if_neg (by omega)]; exact h.2.2 o o0 o1
theorem b_QV.add {n : Nat} {T : a_T} {Q : b_Q} (q : b_QV n T Q) {N : Int → Int} (hN : b_ok n T N) {p w : Int} (hp : 0 ≤ p ∧ p < Q.1) : b_QV n T (b_add n Q N p w).2 ∧ Q.1 ≤ (b_add n Q N p w).2.1 ∧ ((b_add n Q N p w).1 = 0 ∨ (b_add n Q N p w).1 = 1) ∧ (∀ i, i < Q.1 → (b_add n Q N p w).2.2.1 i = Q.2.1 i) := by
  unfold b_add
  by_cases h : b_in n Q N
  · rw [q_if_pos h]; exact ⟨q, Int.le_refl _, Or.inr rfl, fun _ _ => rfl⟩
  · rw [q_if_neg h]
    by_cases c : Q.1 < 3000
    · rw [if_pos c]
      obtain ⟨a1, a2, a3, a4⟩ := q
      refine ⟨⟨by show 1 ≤ Q.1 + 1; omega, by show Q.1 + 1 ≤ 3000; omega, fun i i0 i1 => ?_, fun i i0 i1 => ?_⟩, by show Q.1 ≤ Q.1 + 1; omega, Or.inr rfl, fun i hi => ?_⟩
      · have i1 : i < Q.1 + 1 := i1
        show b_ok n T (if i = Q.1 then N else Q.2.1 i)
        by_cases e : i = Q.1
        · rw [if_pos e]; exact hN
        · rw [if_neg e]; exact a3 i i0 (by omega)
      · have i1 : i < Q.1 + 1 := i1
        show 0 ≤ (if i = Q.1 then p else Q.2.2.1 i) ∧ (if i = Q.1 then p else Q.2.2.1 i) < i
        by_cases e : i = Q.1
        · rw [if_pos e]; omega
        · rw [if_neg e]; exact a4 i i0 (by omega)
      · show (if i = Q.1 then N else Q.2.1 i) = _
        rw [if_neg (by omega)]
    · rw [if_neg c]; exact ⟨q, Int.le_refl _, Or.inl rfl, fun _ _ => rfl⟩
theorem b_QV.one {n : Nat} {T : a_T} (t : a_TV n T) {Q : b_Q} (q : b_QV n T Q) {i x y : Int} (hi : 0 ≤ i ∧ i < Q.1) (hx : 0 ≤ x ∧ x < n) (hy : 0 ≤ y ∧ y < n) : b_QV n T (b_one n T i x y Q).2 ∧ Q.1 ≤ (b_one n T i x y Q).2.1 ∧ ((b_one n T i x y Q).1 = 0 ∨ (b_one n T i x y Q).1 = 1) ∧ (∀ k, k < Q.1 → (b_one n T i x y Q).2.2.1 k = Q.2.1 k) := by
  unfold b_one
  split
  · rename_i hw
    exact q.add ((q.2.2.1 i hi.1 hi.2).nx t hx hy hw) hi
  · exact ⟨q, Int.le_refl _, Or.inr rfl, fun _ _ => rfl⟩
/-! a table in which numbers of states lie, found by going on from a first place -/
def b_H (tab : Int → Int) (M : Int) (h : Int → Int) (cnt : Int) : Prop := (∀ p, 0 ≤ p → p < M → 0 ≤ tab p ∧ tab p ≤ cnt) ∧ g_s (fun p => if tab p = 0 then 0 else 1) M.toNat = cnt ∧ ∀ j, 0 ≤ j → j < cnt → ∃ d, 0 ≤ d ∧ d < M ∧ tab ((h j + d) % M) = j + 1 ∧ ∀ d', 0 ≤ d' → d' < d → tab ((h j + d') % M) ≠ 0
theorem b_H.none {tab : Int → Int} {M : Int} {h : Int → Int} {cnt : Int} (H : b_H tab M h cnt) {like : Int → Prop} {hN d : Int} (hl : ∀ j, 0 ≤ j → j < cnt → like j → h j = hN) (hp : ∀ d', 0 ≤ d' → d' < d → tab ((hN + d') % M) ≠ 0 ∧ ¬ like (tab ((hN + d') % M) - 1)) (h0 : 0 ≤ d) (hz : tab ((hN + d) % M) = 0) : ∀ j, 0 ≤ j → j < cnt → ¬ like j := by
  intro j j0 j1 lk
  obtain ⟨dj, a1, a2, a3, a4⟩ := H.2.2 j j0 j1
  rw [hl j j0 j1 lk] at a3 a4
  by_cases c : dj < d
  · have := (hp dj a1 c).2
    rw [a3, show j + 1 - 1 = j by omega] at this
    exact this lk
  · by_cases e : dj = d
    · rw [e, hz] at a3; omega
    · exact a4 d h0 (by omega) hz
theorem g_s_one {f : Int → Int} : ∀ k : Nat, (∀ p : Int, 0 ≤ p → p < k → f p = 1) → g_s f k = k
  | 0, _ => rfl
  | k + 1, h => by
    show g_s f k + f k = ((k + 1 : Nat) : Int)
    rw [g_s_one k (fun p a b => h p a (by omega)), h k (by omega) (by omega)]; omega
theorem b_H.full {tab : Int → Int} {M : Int} {h : Int → Int} {cnt : Int} (H : b_H tab M h cnt) (hM : M = 4096 ∨ M = 8192) (hc : cnt < 4096) {hN : Int} (hN0 : 0 ≤ hN ∧ hN < M) (hp : ∀ d', 0 ≤ d' → d' < M → tab ((hN + d') % M) ≠ 0) : False := by
  have := g_s_one (f := fun p => if tab p = 0 then 0 else 1) M.toNat (fun p p0 p1 => by
    have q := hp ((p - hN) % M) (by rcases hM with rfl | rfl <;> omega) (by rcases hM with rfl | rfl <;> omega)
    rw [show (hN + (p - hN) % M) % M = p by rcases hM with rfl | rfl <;> omega] at q
    show (if tab p = 0 then 0 else 1) = 1
    rw [if_neg q])
  rw [H.2.1] at this
  rcases hM with rfl | rfl <;> omega
theorem g_s_bump {f g : Int → Int} {q : Int} (hq : f q = 0) (gq : g q = 1) (hne : ∀ p, p ≠ q → g p = f p) : ∀ k : Nat, g_s g k = g_s f k + (if 0 ≤ q ∧ q < k then 1 else 0)
  | 0 => by rw [if_neg (by omega)]; rfl
  | k + 1 => by
    show g_s g k + g k = g_s f k + f k + _
    rw [g_s_bump hq gq hne k]
    by_cases e : q = k
    · rw [← e, gq, hq, if_neg (by omega), if_pos (by omega), Int.add_zero]
    · rw [hne k (Ne.symm e)]
      by_cases c : 0 ≤ q ∧ q < k
      · rw [if_pos c, if_pos (by omega)]; omega
      · rw [if_neg c, if_neg (by omega), Int.add_zero, Int.add_zero]
theorem b_H.put {tab : Int → Int} {M : Int} {h : Int → Int} {cnt : Int} (H : b_H tab M h cnt) (hM : 0 < M) (hc : 0 ≤ cnt) {hN d : Int} (hd : 0 ≤ d ∧ d < M) (hz : tab ((hN + d) % M) = 0) (hp : ∀ d', 0 ≤ d' → d' < d → tab ((hN + d') % M) ≠ 0) {h' : Int → Int} (hh : ∀ j, 0 ≤ j → j < cnt → h' j = h j) (hn : h' cnt = hN) : b_H (fun p => if p = (hN + d) % M then cnt + 1 else tab p) M h' (cnt + 1) := by
  have q0 := Int.emod_nonneg (hN + d) (show M ≠ 0 by omega)
  have q1 := Int.emod_lt_of_pos (hN + d) hM
  obtain ⟨a, b, c⟩ := H
  refine ⟨fun p p0 p1 => ?_, ?_, fun j j0 j1 => ?_⟩
  · show 0 ≤ (if p = (hN + d) % M then cnt + 1 else tab p) ∧ (if p = (hN + d) % M then cnt + 1 else tab p) ≤ cnt + 1
    have := a p p0 p1
    split <;> omega
  · have k := g_s_bump (f := fun p => if tab p = 0 then 0 else 1) (g := fun p => if (if p = (hN + d) % M then cnt + 1 else tab p) = 0 then 0 else 1) (q := (hN + d) % M) (by show (if tab ((hN + d) % M) = 0 then (0 : Int) else 1) = 0; rw [if_pos hz]) (by show (if (if (hN + d) % M = (hN + d) % M then cnt + 1 else tab ((hN + d) % M)) = 0 then (0 : Int) else 1) = 1; rw [if_pos rfl, if_neg (by omega)]) (fun p hne => by show (if (if p = (hN + d) % M then cnt + 1 else tab p) = 0 then (0 : Int) else 1) = (if tab p = 0 then 0 else 1); rw [if_neg hne]) M.toNat
    rw [k, b, if_pos (by omega)]
  · by_cases e : j = cnt
    · refine ⟨d, hd.1, hd.2, ?_, fun d' d0 d1 => ?_⟩
      · rw [e, hn]; show (if (hN + d) % M = (hN + d) % M then cnt + 1 else _) = _; rw [if_pos rfl]
      · rw [e, hn]
        show (if (hN + d') % M = (hN + d) % M then cnt + 1 else tab ((hN + d') % M)) ≠ 0
        split
        · omega
        · exact hp d' d0 d1
    · obtain ⟨dj, x1, x2, x3, x4⟩ := c j j0 (by omega)
      refine ⟨dj, x1, x2, ?_, fun d' d0 d1 => ?_⟩
      · rw [hh j j0 (by omega)]
        show (if (h j + dj) % M = (hN + d) % M then cnt + 1 else tab ((h j + dj) % M)) = j + 1
        rw [if_neg (fun z => by rw [z, hz] at x3; omega)]; exact x3
      · rw [hh j j0 (by omega)]
        show (if (h j + d') % M = (hN + d) % M then cnt + 1 else tab ((h j + d') % M)) ≠ 0
        split
        · omega
        · exact x4 d' d0 d1
