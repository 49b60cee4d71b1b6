/-! ===== reading a text ===== -/
abbrev a_R : Type := Int × Int
def t_fl (s : a_R) (p : Int) : a_R := (s.1, if s.2 = -1 then p else s.2)
abbrev t_is (S : Int → Int) (lm : Int) (s : a_R) (ch : Int) : Prop := s.2 = -1 ∧ s.1 < lm ∧ S s.1 = ch
abbrev t_dg (S : Int → Int) (lm : Int) (s : a_R) : Prop := s.2 = -1 ∧ s.1 < lm ∧ 48 ≤ S s.1 ∧ S s.1 ≤ 57
def t_nd (S : Int → Int) (lm ch : Int) (s : a_R) : a_R := if t_is S lm s ch then (s.1 + 1, s.2) else t_fl s s.1
def t_mr (S : Int → Int) (lm : Int) : Nat → Int → a_R → Int × a_R
  | 0, v, s => (v, s)
  | k + 1, v, s => if t_dg S lm s then t_mr S lm k (v * 10 + (S s.1 - 48)) (s.1 + 1, s.2) else (v, s)
def t_nm (S : Int → Int) (lm : Int) (k : Nat) (s : a_R) : Int × a_R := if t_dg S lm s then t_mr S lm (k - 1) (S s.1 - 48) (s.1 + 1, s.2) else (0, t_fl s s.1)
/-- what is read has to lie between two numbers -/
def t_ck (lo hi : Int) (p : Int × a_R) : a_R := if p.2.2 = -1 ∧ ¬ (lo ≤ p.1 ∧ p.1 ≤ hi) then (p.2.1, p.2.1 - 1) else p.2
/-- a place in a text is as it must be -/
def t_ok (lm : Int) (s : a_R) : Prop := 0 ≤ s.1 ∧ s.1 ≤ lm ∧ lm ≤ 80 ∧ -1 ≤ s.2 ∧ s.2 ≤ 80
theorem t_ok.fl {lm : Int} {s : a_R} (h : t_ok lm s) {p : Int} (h0 : -1 ≤ p) (h1 : p ≤ 80) : t_ok lm (t_fl s p) := by
  obtain ⟨a, b, c, d, e⟩ := h
  refine ⟨a, b, c, ?_, ?_⟩
  · show -1 ≤ (if s.2 = -1 then p else s.2); split <;> omega
  · show (if s.2 = -1 then p else s.2) ≤ 80; split <;> omega
theorem t_ok.nx {S : Int → Int} {lm : Int} {s : a_R} (h : t_ok lm s) (hl : s.1 < lm) : t_ok lm (s.1 + 1, s.2) := by
  obtain ⟨a, b, c, d, e⟩ := h
  exact ⟨by show 0 ≤ s.1 + 1; omega, by show s.1 + 1 ≤ lm; omega, c, d, e⟩
theorem t_ok.nd {S : Int → Int} {lm ch : Int} {s : a_R} (h : t_ok lm s) : t_ok lm (t_nd S lm ch s) := by
  unfold t_nd
  split
  · rename_i z; exact h.nx (S := S) z.2.1
  · exact h.fl (by have := h.1; omega) (by have := h.2.1; have := h.2.2.1; omega)
theorem t_mr_ok {S : Int → Int} {lm : Int} : ∀ (k : Nat) (v : Int) (s : a_R), t_ok lm s → t_ok lm (t_mr S lm k v s).2 ∧ (t_mr S lm k v s).2.2 = s.2
  | 0, _, _, h => ⟨h, rfl⟩
  | k + 1, v, s, h => by
    simp only [t_mr]
    split
    · rename_i z; exact t_mr_ok k _ (s.1 + 1, s.2) (h.nx (S := S) z.2.1)
    · exact ⟨h, rfl⟩
theorem t_mr_v {S : Int → Int} {lm : Int} : ∀ (k : Nat) (v : Int) (s : a_R) (B : Int), 0 ≤ v → v ≤ B → 0 ≤ (t_mr S lm k v s).1 ∧ (t_mr S lm k v s).1 ≤ (B + 1) * 10 ^ k - 1
  | 0, v, s, B, h0, h1 => by simp only [t_mr]; omega
  | k + 1, v, s, B, h0, h1 => by
    simp only [t_mr]
    split
    · rename_i z
      have := t_mr_v (S := S) (lm := lm) k (v * 10 + (S s.1 - 48)) (s.1 + 1, s.2) (B * 10 + 9) (by omega) (by omega)
      rw [show (B + 1) * 10 ^ (k + 1) = (B * 10 + 9 + 1) * 10 ^ k by rw [Int.pow_succ, Int.mul_comm (10 ^ k) 10, ← Int.mul_assoc, show (B + 1) * 10 = B * 10 + 9 + 1 by omega]]
      exact this
    · refine ⟨h0, ?_⟩
      have p : (1 : Int) ≤ 10 ^ (k + 1) := Int.le_of_lt_add_one (by have := Int.pow_pos (n := 10) (m := k + 1) (by decide); omega)
      have := Int.mul_le_mul_of_nonneg_left (a := 1) (b := 10 ^ (k + 1)) (c := B + 1) p (by omega)
      omega
theorem t_nm_ok {S : Int → Int} {lm : Int} {k : Nat} {s : a_R} (h : t_ok lm s) : t_ok lm (t_nm S lm k s).2 := by
  unfold t_nm
  split
  · rename_i z; exact (t_mr_ok _ _ _ (h.nx (S := S) z.2.1)).1
  · exact h.fl (by have := h.1; omega) (by have := h.2.1; have := h.2.2.1; omega)
theorem t_nm_v {S : Int → Int} {lm : Int} {k : Nat} {s : a_R} (hk : 0 < k) : 0 ≤ (t_nm S lm k s).1 ∧ (t_nm S lm k s).1 ≤ 10 ^ k - 1 := by
  unfold t_nm
  split
  · rename_i z
    have := t_mr_v (S := S) (lm := lm) (k - 1) (S s.1 - 48) (s.1 + 1, s.2) 9 (by omega) (by omega)
    obtain ⟨q, rfl⟩ : ∃ q, k = q + 1 := ⟨k - 1, by omega⟩
    rw [Nat.add_sub_cancel] at this ⊢
    rw [Int.pow_succ, Int.mul_comm]
    exact this
  · refine ⟨Int.le_refl 0, ?_⟩
    have := Int.pow_pos (n := 10) (m := k) (by decide)
    show (0 : Int) ≤ _
    omega
theorem t_nm_p {S : Int → Int} {lm : Int} {k : Nat} {s : a_R} (h : t_ok lm s) : (t_nm S lm k s).2.2 = -1 → t_dg S lm s ∧ s.1 < (t_nm S lm k s).2.1 := by
  unfold t_nm
  intro hf
  split at hf
  · rename_i z
    rw [if_pos z]
    refine ⟨z, ?_⟩
    have : ∀ (k : Nat) (v : Int) (u : a_R), u.1 ≤ (t_mr S lm k v u).2.1 := by
      intro k
      induction k with
      | zero => intro v u; exact Int.le_refl _
      | succ k ih =>
        intro v u
        simp only [t_mr]
        split
        · have := ih (v * 10 + (S u.1 - 48)) (u.1 + 1, u.2)
          have e : (u.1 + 1, u.2).1 = u.1 + 1 := rfl
          omega
        · exact Int.le_refl _
    have := this (k - 1) (S s.1 - 48) (s.1 + 1, s.2)
    have e : (s.1 + 1, s.2).1 = s.1 + 1 := rfl
    omega
  · have h1 := h.1
    have e : (t_fl s s.1).2 = if s.2 = -1 then s.1 else s.2 := rfl
    have hf : (t_fl s s.1).2 = -1 := hf
    rw [e] at hf
    split at hf <;> omega
theorem t_ck_ok {lm lo hi : Int} {p : Int × a_R} (h : t_ok lm p.2) : t_ok lm (t_ck lo hi p) := by
  unfold t_ck
  split
  · obtain ⟨a, b, c, d, e⟩ := h
    exact ⟨a, b, c, by show -1 ≤ p.2.1 - 1; omega, by show p.2.1 - 1 ≤ 80; omega⟩
  · exact h
/-- the class reads here; the reference reads here -/
def c_R (m : qm) (S : Int → Int) (lm : Int) (s : a_R) : Prop := m 145 2 = lm ∧ m 145 3 = s.1 ∧ m 145 4 = s.2 ∧ t_ok lm s ∧ ∀ i, 0 ≤ i → i < lm → (m 146 i = S i ∧ 0 ≤ S i) ∨ (S i = -1 ∧ 128 ≤ m 146 i)
def r_R (b : Int) (m : qm) (S : Int → Int) (lm : Int) (s : a_R) : Prop := min (m 188 19) (m 188 20) = lm ∧ m 188 22 = s.2 ∧ (s.2 = -1 → m 188 21 = s.1) ∧ t_ok lm s ∧ (∀ i, 0 ≤ i → i < lm → (m b i = S i ∧ 0 ≤ S i) ∨ (S i = -1 ∧ m b i < 0)) ∧ 0 ≤ b ∧ ∃ N : Nat, q_sh0[b.toNat]? = some (2, N) ∧ lm ≤ N
abbrev x_rC (c i : Int) : Prop := c = 145 ∧ (i = 3 ∨ i = 4)
abbrev x_rM (c i : Int) : Prop := c = 188 ∧ (i = 21 ∨ i = 22)
theorem c_R.fr {m m' : qm} {S : Int → Int} {lm : Int} {s : a_R} {X : Int → Int → Prop} (h : c_R m S lm s) (hf : q_fx X m m') (hd : ∀ c i, (c = 145 ∧ 2 ≤ i ∧ i ≤ 4) ∨ c = 146 → ¬ X c i) : c_R m' S lm s := by
  have e : ∀ c i, (c = 145 ∧ 2 ≤ i ∧ i ≤ 4) ∨ c = 146 → m' c i = m c i := fun c i z => hf c i (hd c i z)
  obtain ⟨a, b, c, d, f⟩ := h
  exact ⟨(e _ _ (by omega)).trans a, (e _ _ (by omega)).trans b, (e _ _ (by omega)).trans c, d, fun i i0 i1 => by rw [e 146 i (by omega)]; exact f i i0 i1⟩
theorem r_R.fr {b : Int} {m m' : qm} {S : Int → Int} {lm : Int} {s : a_R} {X : Int → Int → Prop} (h : r_R b m S lm s) (hf : q_fx X m m') (hd : ∀ c i, (c = 188 ∧ 19 ≤ i ∧ i ≤ 22) ∨ c = b → ¬ X c i) : r_R b m' S lm s := by
  have e : ∀ c i, (c = 188 ∧ 19 ≤ i ∧ i ≤ 22) ∨ c = b → m' c i = m c i := fun c i z => hf c i (hd c i z)
  obtain ⟨a, b1, c, d, f, g⟩ := h
  refine ⟨?_, (e _ _ (by omega)).trans b1, fun z => (e _ _ (by omega)).trans (c z), d, fun i i0 i1 => by rw [e b i (Or.inr rfl)]; exact f i i0 i1, g⟩
  rw [e 188 19 (by omega), e 188 20 (by omega)]; exact a
theorem c_R.set {m m' : qm} {S : Int → Int} {lm : Int} {s s' : a_R} (h : c_R m S lm s) (hf : q_fx x_rC m m') (h1 : m' 145 3 = s'.1) (h2 : m' 145 4 = s'.2) (ok : t_ok lm s') : c_R m' S lm s' := ⟨(hf _ _ (by unfold x_rC; omega)).trans h.1, h1, h2, ok, fun i i0 i1 => by rw [hf 146 i (by unfold x_rC; omega)]; exact h.2.2.2.2 i i0 i1⟩
theorem r_R.set {b : Int} {m m' : qm} {S : Int → Int} {lm : Int} {s s' : a_R} (h : r_R b m S lm s) (hf : q_fx x_rM m m') (hb : b ≠ 188) (h1 : s'.2 = -1 → m' 188 21 = s'.1) (h2 : m' 188 22 = s'.2) (ok : t_ok lm s') : r_R b m' S lm s' := by
  refine ⟨?_, h2, h1, ok, fun i i0 i1 => by rw [hf b i (by unfold x_rM; omega)]; exact h.2.2.2.2.1 i i0 i1, h.2.2.2.2.2⟩
  rw [hf 188 19 (by unfold x_rM; omega), hf 188 20 (by unfold x_rM; omega)]; exact h.1
/-! the class's words -/
theorem sp_failAtC {b p : Int} {m : qm} {S : Int → Int} {lm : Int} {s : a_R} (h : c_R m S lm s) (h0 : -1 ≤ p) (h1 : p ≤ 80) : q_Ev yX6_failAt cX6_failAt 2 none 1 0 0 [(2, 145), (0, p)] (q_sh0, q_rb b, m) (qK (q_rb b) (fun _ m' => c_R m' S lm (t_fl s p) ∧ q_fx x_rC m m')) := by
  have e4 := h.2.2.1
  have ok := h.2.2.2.1.fl h0 h1
  refine q_enter (by decide +kernel) (by simp) (Nat.le_of_ble_eq_true rfl) ?_
  refine bkX6_failAt_0 (fun z => ⟨h.set q_fx.rf h.2.1 ?_ ok, q_fx.rf⟩) (fun z => ?_)
  · show m 145 4 = if s.2 = -1 then p else s.2
    rw [if_neg (by omega)]; exact e4
  · have f : q_fx x_rC m (q_up m 145 4 p) := q_fx.rf.up (by unfold x_rC; omega)
    refine ⟨h.set f ((q_up_i (by decide)).trans h.2.1) ?_ ok, f⟩
    show _ = if s.2 = -1 then p else s.2
    rw [q_up_s, if_pos (by omega)]
theorem sp_peekC {b : Int} {m : qm} {S : Int → Int} {lm : Int} {s : a_R} (h : c_R m S lm s) : q_Ev yX6_peek cX6_peek 1 (some .int) 1 0 0 [(2, 145)] (q_sh0, q_rb b, m) (qK (q_rb b) (fun r m' => m' = m ∧ (∀ ch, 0 ≤ ch → ch ≤ 127 → (r = ch ↔ t_is S lm s ch)) ∧ (r = -1 ↔ ¬ (s.2 = -1 ∧ s.1 < lm)) ∧ -1 ≤ r)) := by
  obtain ⟨e2, e3, e4, ok, tx⟩ := h
  obtain ⟨k1, k2, k3, k4, k5⟩ := ok
  refine q_enter (by decide +kernel) (by simp) (Nat.le_of_ble_eq_true rfl) ?_
  refine bkX6_peek_0 (fun z => ⟨rfl, fun ch a b => ⟨fun y => by omega, fun y => by omega⟩, ⟨fun _ y => by omega, fun _ => rfl⟩, by omega⟩) (fun z1 z2 => ⟨rfl, fun ch a b => ⟨fun y => by omega, fun y => by omega⟩, ⟨fun _ y => by omega, fun _ => rfl⟩, by omega⟩) (fun _ _ => by omega) (fun z1 z2 => ?_)
  have t := tx s.1 k1 (by omega)
  rw [e3]
  refine ⟨rfl, fun ch a b => ⟨fun y => ⟨by omega, by omega, by omega⟩, fun y => by have := y.2.2; omega⟩, ⟨fun y => by omega, fun y => absurd ⟨by omega, by omega⟩ y⟩, by omega⟩
theorem sp_seesC {b ch : Int} {m : qm} {S : Int → Int} {lm : Int} {s : a_R} (h : c_R m S lm s) (h0 : 0 ≤ ch) (h1 : ch ≤ 127) : q_Ev yX6_sees cX6_sees 2 (some .boolean) 2 0 0 [(2, 145), (0, ch)] (q_sh0, q_rb b, m) (qK (q_rb b) (fun r m' => m' = m ∧ ((r = 1 ∧ t_is S lm s ch) ∨ (r = 0 ∧ ¬ t_is S lm s ch)))) := by
  refine q_enter (by decide +kernel) (by simp) (Nat.le_of_ble_eq_true rfl) ?_
  refine bkX6_sees_0 (sp_peekC h) ?_ ?_
  · rintro r m1 ⟨rfl, g, -⟩ _ z
    exact ⟨rfl, Or.inr ⟨rfl, fun y => z ((g ch h0 h1).mpr y)⟩⟩
  · rintro r m1 ⟨rfl, g, -⟩ _ z
    exact ⟨rfl, Or.inl ⟨rfl, (g ch h0 h1).mp z⟩⟩
theorem t_dg_iff {S : Int → Int} {lm r : Int} {s : a_R} (g : ∀ ch, 0 ≤ ch → ch ≤ 127 → (r = ch ↔ t_is S lm s ch)) : (48 ≤ r ∧ r ≤ 57) ↔ t_dg S lm s := by
  constructor
  · intro ⟨a, b⟩
    have := (g r (by omega) (by omega)).mp rfl
    exact ⟨this.1, this.2.1, by have := this.2.2; omega, by have := this.2.2; omega⟩
  · intro z
    have := (g (S s.1) (by have := z.2.2.1; omega) (by have := z.2.2.2; omega)).mpr ⟨z.1, z.2.1, rfl⟩
    have := z.2.2
    omega
theorem sp_seesDigitC {b : Int} {m : qm} {S : Int → Int} {lm : Int} {s : a_R} (h : c_R m S lm s) : q_Ev yX6_seesDigit cX6_seesDigit 2 (some .boolean) 2 0 0 [(2, 145)] (q_sh0, q_rb b, m) (qK (q_rb b) (fun r m' => m' = m ∧ ((r = 1 ∧ t_dg S lm s) ∨ (r = 0 ∧ ¬ t_dg S lm s)))) := by
  refine q_enter (by decide +kernel) (by simp) (Nat.le_of_ble_eq_true rfl) ?_
  refine bkX6_seesDigit_0 (sp_peekC h) ?_ ?_ ?_
  · rintro r m1 ⟨rfl, g, -⟩ _ z
    exact ⟨rfl, Or.inr ⟨rfl, fun y => by have := (t_dg_iff g).mpr y; omega⟩⟩
  · rintro r m1 ⟨rfl, g, -⟩ _ z1 z2
    exact ⟨rfl, Or.inr ⟨rfl, fun y => by have := (t_dg_iff g).mpr y; omega⟩⟩
  · rintro r m1 ⟨rfl, g, -⟩ _ z1 z2
    exact ⟨rfl, Or.inl ⟨rfl, (t_dg_iff g).mp ⟨z1, z2⟩⟩⟩
theorem c_R.nx {m : qm} {S : Int → Int} {lm : Int} {s : a_R} (h : c_R m S lm s) (hl : s.1 < lm) : c_R (q_up m 145 3 (m 145 3 + 1)) S lm (s.1 + 1, s.2) ∧ q_fx x_rC m (q_up m 145 3 (m 145 3 + 1)) := by
  have f : q_fx x_rC m (q_up m 145 3 (m 145 3 + 1)) := q_fx.rf.up (by unfold x_rC; omega)
  exact ⟨h.set f (by rw [q_up_s, h.2.1]) ((q_up_i (by decide)).trans h.2.2.1) (h.2.2.2.1.nx (S := S) hl), f⟩
theorem sp_skipC {b ch : Int} {m : qm} {S : Int → Int} {lm : Int} {s : a_R} (h : c_R m S lm s) (h0 : 0 ≤ ch) (h1 : ch ≤ 127) : q_Ev yX6_skip cX6_skip 2 (some .boolean) 2 0 0 [(2, 145), (0, ch)] (q_sh0, q_rb b, m) (qK (q_rb b) (fun r m' => ((r = 1 ∧ t_is S lm s ch ∧ c_R m' S lm (s.1 + 1, s.2)) ∨ (r = 0 ∧ ¬ t_is S lm s ch ∧ c_R m' S lm s)) ∧ q_fx x_rC m m')) := by
  have e3 := h.2.1
  have ok := h.2.2.2.1
  obtain ⟨k1, k2, k3, -⟩ := ok
  refine q_enter (by decide +kernel) (by simp) (Nat.le_of_ble_eq_true rfl) ?_
  refine bkX6_skip_0 (sp_peekC h) ?_ ?_ ?_
  · rintro r m1 ⟨rfl, g, -⟩ _ z
    exact q_in_of (by omega) (by omega)
  · rintro r m1 ⟨rfl, g, -⟩ _ z
    have y := (g ch h0 h1).mp z
    have n := h.nx y.2.1
    exact ⟨Or.inl ⟨rfl, y, n.1⟩, n.2⟩
  · rintro r m1 ⟨rfl, g, -⟩ _ z
    exact ⟨Or.inr ⟨rfl, fun y => z ((g ch h0 h1).mpr y), h⟩, q_fx.rf⟩
theorem sp_needC {b ch : Int} {m : qm} {S : Int → Int} {lm : Int} {s : a_R} (h : c_R m S lm s) (h0 : 0 ≤ ch) (h1 : ch ≤ 127) : q_Ev yX6_need cX6_need 2 none 3 0 0 [(2, 145), (0, ch)] (q_sh0, q_rb b, m) (qK (q_rb b) (fun _ m' => c_R m' S lm (t_nd S lm ch s) ∧ q_fx x_rC m m')) := by
  refine q_enter (by decide +kernel) (by simp) (Nat.le_of_ble_eq_true rfl) ?_
  refine bkX6_need_0 (P3 := fun _ _ _ m' => c_R m' S lm (t_nd S lm ch s) ∧ q_fx x_rC m m') (sp_skipC h h0 h1) ?_ ?_ (fun _ _ _ _ _ _ _ z _ => z)
  · rintro r m1 ⟨g, f⟩ _ z
    rcases g with g | g
    · refine ⟨?_, f⟩
      unfold t_nd; rw [if_pos g.2.1]; exact g.2.2
    · exact absurd g.1 z
  · rintro r m1 ⟨g, f⟩ _ z
    rcases g with g | g
    · omega
    · have c := g.2.2
      have e3 := c.2.1
      obtain ⟨k1, k2, k3, -⟩ := c.2.2.2.1
      rw [e3]
      refine (sp_failAtC c (by omega) (by omega)).post (fun r m' y => ⟨?_, f.tr y.2⟩)
      unfold t_nd; rw [if_neg g.2.1]; exact y.1
theorem sp_digitC {b : Int} {m : qm} {S : Int → Int} {lm : Int} {s : a_R} (h : c_R m S lm s) : q_Ev yX6_digit cX6_digit 2 (some .int) 2 0 0 [(2, 145)] (q_sh0, q_rb b, m) (qK (q_rb b) (fun r m' => ((t_dg S lm s ∧ r = S s.1 - 48 ∧ c_R m' S lm (s.1 + 1, s.2)) ∨ (¬ t_dg S lm s ∧ r = 0 ∧ c_R m' S lm (t_fl s s.1))) ∧ q_fx x_rC m m')) := by
  have e3 := h.2.1
  obtain ⟨k1, k2, k3, -⟩ := h.2.2.2.1
  refine q_enter (by decide +kernel) (by simp) (Nat.le_of_ble_eq_true rfl) ?_
  refine bkX6_digit_0 (P3 := fun _ _ _ m' => c_R m' S lm (t_fl s s.1) ∧ q_fx x_rC m m') (P5 := fun _ _ _ m' => c_R m' S lm (t_fl s s.1) ∧ q_fx x_rC m m') (sp_peekC h) ?_ ?_ ?_ ?_ ?_ ?_
  · rintro r m1 ⟨rfl, g, -⟩ _ z
    rw [e3]; exact sp_failAtC h (by omega) (by omega)
  · rintro r m1 ⟨rfl, g, -⟩ _ z r3 m3 h3 _
    exact ⟨Or.inr ⟨fun y => by have := (t_dg_iff g).mpr y; omega, rfl, h3.1⟩, h3.2⟩
  · rintro r m1 ⟨rfl, g, -⟩ _ z1 z2
    exact ⟨q_in_of (by omega) (by omega), q_in_of (by omega) (by omega)⟩
  · rintro r m1 ⟨rfl, g, -⟩ _ z1 z2
    have y := (t_dg_iff g).mp ⟨z1, z2⟩
    have e := (g r (by omega) (by omega)).mp rfl
    have n := h.nx y.2.1
    exact ⟨Or.inl ⟨y, by rw [e.2.2], n.1⟩, n.2⟩
  · rintro r m1 ⟨rfl, g, -⟩ _ z1 z2
    rw [e3]; exact sp_failAtC h (by omega) (by omega)
  · rintro r m1 ⟨rfl, g, -⟩ _ z1 z2 r3 m3 h3 _
    exact ⟨Or.inr ⟨fun y => by have := (t_dg_iff g).mpr y; omega, rfl, h3.1⟩, h3.2⟩
theorem sp_numberC {b : Int} {m : qm} {S : Int → Int} {lm : Int} {s : a_R} (k : Nat) (hk : 1 ≤ k ∧ k ≤ 3) (h : c_R m S lm s) : q_Ev yX6_number cX6_number 4 (some .int) 3 0 0 [(2, 145), (0, (k : Int))] (q_sh0, q_rb b, m) (qK (q_rb b) (fun r m' => r = (t_nm S lm k s).1 ∧ c_R m' S lm (t_nm S lm k s).2 ∧ q_fx x_rC m m')) := by
  refine q_enter (by decide +kernel) (by simp) (Nat.le_of_ble_eq_true rfl) ?_
  refine bkX6_number_0 (sp_digitC h) ?_
  rintro r1 m1 ⟨g, f⟩ _
  have go : ∀ (d : Nat) (i v : Int) (m' : qm) (s' : a_R), 1 ≤ i → i + d = k → 0 ≤ v → v < 10 ^ (k - d) → c_R m' S lm s' → q_fx x_rC m m' → t_mr S lm d v s' = t_nm S lm k s ∨ (¬ t_dg S lm s' ∧ (v, s') = t_nm S lm k s) → q_At yX6_number cX6_number 4 (some .int) 3 0 0 (qK (q_rb b) (fun r m' => r = (t_nm S lm k s).1 ∧ c_R m' S lm (t_nm S lm k s).2 ∧ q_fx x_rC m m')) 7 [(2, 145), (0, (k : Int)), (0, v), (0, i)] [] (q_sh0, q_rb b, m') := by
    intro d
    induction d with
    | zero =>
      intro i v m' s' i0 hi v0 v1 c fx he
      have he : (v, s') = t_nm S lm k s := by
        rcases he with he | he
        · exact he
        · exact he.2
      refine bkX6_number_7 (P2 := fun _ _ => True) (P4 := fun _ _ _ _ => True) (fun _ => ⟨congrArg Prod.fst he, ?_, fx⟩) (fun z => absurd z (by omega)) (fun z => absurd z (by omega)) (fun z => absurd z (by omega)) (fun z => absurd z (by omega)) (fun z => absurd z (by omega)) (fun z => absurd z (by omega))
      rw [← he]; exact c
    | succ d ih =>
      intro i v m' s' i0 hi v0 v1 c fx he
      have hv : v < 100 := by
        have : k - (d + 1) ≤ 2 := by omega
        have := Int.lt_of_lt_of_le v1 (show (10 : Int) ^ (k - (d + 1)) ≤ 10 ^ 2 from by
          have h3 : k - (d + 1) = 0 ∨ k - (d + 1) = 1 ∨ k - (d + 1) = 2 := by omega
          rcases h3 with h3 | h3 | h3 <;> rw [h3] <;> decide)
        omega
      refine bkX6_number_7 (P4 := fun _ m2 r m4 => ((t_dg S lm s' ∧ r = S s'.1 - 48 ∧ c_R m4 S lm (s'.1 + 1, s'.2)) ∨ (¬ t_dg S lm s' ∧ r = 0 ∧ c_R m4 S lm (t_fl s' s'.1))) ∧ q_fx x_rC m m4) (fun z => absurd z (by omega)) (fun _ => sp_seesDigitC c) ?_ (fun _ _ _ _ _ _ => q_in_of (by omega) (by omega)) ?_ ?_ ?_
      · rintro _ r2 m2 ⟨rfl, g2⟩ _ z
        have nd : ¬ t_dg S lm s' := by
          rcases g2 with g2 | g2
          · omega
          · exact g2.2
        have he : (v, s') = t_nm S lm k s := by
          rcases he with he | he
          · rw [← he]; simp only [t_mr]; rw [if_neg nd]
          · exact he.2
        exact ⟨congrArg Prod.fst he, by rw [← he]; exact c, fx⟩
      · rintro _ r2 m2 ⟨rfl, g2⟩ _ z
        exact (sp_digitC c).post (fun r m4 y => ⟨y.1, fx.tr y.2⟩)
      · rintro _ r2 m2 ⟨rfl, g2⟩ _ z r4 m4 ⟨g4, f4⟩ _
        have yd : t_dg S lm s' := by
          rcases g2 with g2 | g2
          · exact g2.2
          · exact absurd g2.1 z
        have g4 := g4.resolve_right (fun y => y.1 yd)
        have := g4.2.1
        have := yd.2.2
        exact ⟨q_in_of (by omega) (by omega), q_in_of (by omega) (by omega)⟩
      · rintro _ r2 m2 ⟨rfl, g2⟩ _ z r4 m4 ⟨g4, f4⟩ _
        have yd : t_dg S lm s' := by
          rcases g2 with g2 | g2
          · exact g2.2
          · exact absurd g2.1 z
        have g4 := g4.resolve_right (fun y => y.1 yd)
        have e4 := g4.2.1
        have y2 := yd.2.2
        rw [e4]
        have he2 : t_mr S lm d (v * 10 + (S s'.1 - 48)) (s'.1 + 1, s'.2) = t_nm S lm k s := by
          rcases he with he | he
          · rw [← he]; simp only [t_mr]; rw [if_pos yd]
          · exact absurd yd he.1
        refine ih (i + 1) _ m4 (s'.1 + 1, s'.2) (by omega) (by omega) (by omega) ?_ g4.2.2 f4 (Or.inl he2)
        have e5 : k - d = (k - (d + 1)) + 1 := by omega
        rw [e5, Int.pow_succ]
        omega
  rcases g with g | g
  · have y2 := g.1.2.2
    refine go (k - 1) 1 r1 m1 (s.1 + 1, s.2) (by omega) (by omega) (by omega) ?_ g.2.2 f (Or.inl ?_)
    · rw [show k - (k - 1) = 1 by omega]; have := g.2.1; omega
    · rw [g.2.1]; unfold t_nm; rw [if_pos g.1]
  · refine go (k - 1) 1 r1 m1 (t_fl s s.1) (by omega) (by omega) (by have := g.2.1; omega) ?_ g.2.2 f (Or.inr ⟨?_, ?_⟩)
    · rw [show k - (k - 1) = 1 by omega]; have := g.2.1; omega
    · rintro ⟨y, -⟩
      have y : (if s.2 = -1 then s.1 else s.2) = -1 := y
      have := g.2.2.2.2.2.1.1
      have e : (t_fl s s.1).1 = s.1 := rfl
      split at y <;> omega
    · rw [g.2.1]; unfold t_nm; rw [if_neg g.1]
