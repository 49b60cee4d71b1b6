/-! ===== opening and closing; the reference's words ===== -/
/-- a text's signs, as both may see them -/
def t_S (m : qm) (c : Int) : Int → Int := fun i => if 0 ≤ m c i then m c i else -1
/-- the end of a reading: where it went wrong, or -1 -/
def t_end (L most : Int) (s : a_R) : Int := if s.2 = -1 then (if s.1 < min L most then s.1 else if most < L then most else -1) else s.2
theorem sp_open {b most : Int} {m : qm} (x : i_X m) (h0 : 0 ≤ most) : q_Ev yX6_open cX6_open 2 none 1 0 0 [(2, 145), (0, most)] (q_sh0, q_rb b, m) (qK (q_rb b) (fun _ m' => c_R m' (t_S m 198) (min (m 188 14) most) (0, -1) ∧ q_fx (fun c i => c = 145 ∧ 2 ≤ i ∧ i ≤ 4) m m')) := by
  obtain ⟨x1, x2, x3, x4⟩ := x
  refine q_enter (by decide +kernel) (by simp) (Nat.le_of_ble_eq_true rfl) ?_
  have f : q_fx (fun c i => c = 145 ∧ 2 ≤ i ∧ i ≤ 4) m (q_up (q_up (q_up m 145 2 (min (m 145 1) most)) 145 3 0) 145 4 (-1)) := ((q_fx.rf.up (by omega)).up (by omega)).up (by omega)
  refine bkX6_open_0 ⟨⟨?_, ?_, q_up_s, ⟨by show (0 : Int) ≤ 0; omega, by show (0 : Int) ≤ _; omega, by omega, by show (-1 : Int) ≤ -1; omega, by show (-1 : Int) ≤ 80; omega⟩, fun i i0 i1 => ?_⟩, f⟩
  · rw [q_up_i (by decide), q_up_i (by decide), q_up_s, x1]
  · rw [q_up_i (by decide), q_up_s]
  · rw [f 146 i (by omega)]
    have y := x4 i i0 (by omega)
    unfold t_S
    by_cases h : 0 ≤ m 198 i
    · rw [if_pos h]; left; omega
    · rw [if_neg h]; right; omega
theorem t_end_fl {L most : Int} {s : a_R} (h : s.2 ≠ -1) : t_end L most s = s.2 := by unfold t_end; rw [if_neg h]
theorem t_end_lt {L most : Int} {s : a_R} (h : s.2 = -1) (h2 : s.1 < min L most) : t_end L most s = s.1 := by unfold t_end; rw [if_pos h, if_pos h2]
theorem t_end_lo {L most : Int} {s : a_R} (h : s.2 = -1) (h2 : ¬ s.1 < min L most) (h3 : most < L) : t_end L most s = most := by unfold t_end; rw [if_pos h, if_neg h2, if_pos h3]
theorem t_end_no {L most : Int} {s : a_R} (h : s.2 = -1) (h2 : ¬ s.1 < min L most) (h3 : ¬ most < L) : t_end L most s = -1 := by unfold t_end; rw [if_pos h, if_neg h2, if_neg h3]
theorem sp_close {b most L : Int} {m : qm} {S : Int → Int} {s : a_R} (h : c_R m S (min L most) s) (hL : m 145 1 = L) (h0 : 0 ≤ most ∧ most ≤ 80) (hL8 : L ≤ 80) : q_Ev yX6_close cX6_close 2 (some .int) 2 0 0 [(2, 145), (0, most)] (q_sh0, q_rb b, m) (qK (q_rb b) (fun r m' => r = (if t_end L most s = -1 then 0 else -1 - t_end L most s) ∧ q_fx x_rC m m')) := by
  have e2 := h.1
  have e3 := h.2.1
  have e4 := h.2.2.1
  obtain ⟨k1, k2, k3, k4, k5⟩ := h.2.2.2.1
  have fl2 : ∀ p, (t_fl s p).2 = if s.2 = -1 then p else s.2 := fun p => rfl
  refine q_enter (by decide +kernel) (by simp) (Nat.le_of_ble_eq_true rfl) ?_
  refine bkX6_close_0 (P4 := fun _ m4 => m4 145 4 = (if s.2 = -1 then most else s.2) ∧ m4 145 1 = L ∧ q_fx x_rC m m4) (P6 := fun _ m4 => m4 145 4 = (if s.2 = -1 then s.1 else s.2) ∧ m4 145 1 = L ∧ c_R m4 S (min L most) (t_fl s s.1) ∧ q_fx x_rC m m4) (P9 := fun _ _ _ m4 => m4 145 4 = (if s.2 = -1 then s.1 else s.2) ∧ q_fx x_rC m m4) (fun _ _ _ => q_in_of (by omega) (by omega)) (fun z1 z2 z3 => ⟨?_, q_fx.rf⟩) (fun z1 z2 z3 => ⟨?_, q_fx.rf⟩) (fun z1 z2 => ?_) ?_ ?_ ?_ (fun z => ?_) ?_ ?_ ?_ ?_ ?_ ?_ ?_
  · rw [t_end_fl (by omega), if_neg (by omega), e4]
  · rw [t_end_no (by omega) (by omega) (by omega), if_pos rfl]
  · exact (sp_failAtC h (by omega) (by omega)).post (fun r m4 y => ⟨y.1.2.2.1, (y.2 _ _ (by unfold x_rC; omega)).trans hL, y.2⟩)
  · rintro z1 z2 r4 m4 ⟨g, -, f⟩ _ z
    rw [g]; split <;> exact q_in_of (by omega) (by omega)
  · rintro z1 z2 r4 m4 ⟨g, -, f⟩ _ z
    refine ⟨?_, f⟩
    by_cases c : s.2 = -1
    · rw [if_pos c] at g
      rw [t_end_lo c (by omega) (by omega), if_neg (by omega), g]
    · rw [if_neg c] at g
      rw [t_end_fl c, if_neg c, g]
  · rintro z1 z2 r4 m4 ⟨g, -, f⟩ _ z
    rw [g] at z; split at z <;> omega
  · rw [e3]
    exact (sp_failAtC h (by omega) (by omega)).post (fun r m4 y => ⟨y.1.2.2.1, (y.2 _ _ (by unfold x_rC; omega)).trans hL, y.1, y.2⟩)
  · rintro z1 r4 m4 ⟨g, -, -, f⟩ _ z2 z
    rw [g]; split <;> exact q_in_of (by omega) (by omega)
  · rintro z1 r4 m4 ⟨g, -, -, f⟩ _ z2 z
    refine ⟨?_, f⟩
    by_cases c : s.2 = -1
    · rw [if_pos c] at g
      rw [t_end_lt c (by omega), if_neg (by omega), g]
    · rw [if_neg c] at g
      rw [t_end_fl c, if_neg c, g]
  · rintro z1 r4 m4 ⟨g, -, -, f⟩ _ z2 z
    rw [g] at z; split at z <;> omega
  · rintro z1 r6 m6 ⟨g, g2, c6, f⟩ _ z2
    refine (sp_failAtC c6 (by omega) (by omega)).post (fun r m9 y => ⟨?_, f.tr y.2⟩)
    have y4 : m9 145 4 = if (t_fl s s.1).2 = -1 then most else (t_fl s s.1).2 := y.1.2.2.1
    rw [y4, fl2]
    by_cases c : s.2 = -1
    · rw [if_pos c, if_neg (by omega)]
    · rw [if_neg c, if_neg c]
  · rintro z1 r6 m6 ⟨g, g2, c6, f⟩ _ z2 r9 m9 ⟨g9, f9⟩ _ z
    rw [g9]; split <;> exact q_in_of (by omega) (by omega)
  · rintro z1 r6 m6 ⟨g, g2, c6, f⟩ _ z2 r9 m9 ⟨g9, f9⟩ _ z
    refine ⟨?_, f9⟩
    by_cases c : s.2 = -1
    · rw [if_pos c] at g9
      rw [t_end_lt c (by omega), if_neg (by omega), g9]
    · rw [if_neg c] at g9
      rw [t_end_fl c, if_neg c, g9]
  · rintro z1 r6 m6 ⟨g, g2, c6, f⟩ _ z2 r9 m9 ⟨g9, f9⟩ _ z
    rw [g9] at z; split at z <;> omega
theorem r_R.b8 {b : Int} {m : qm} {S : Int → Int} {lm : Int} {s : a_R} (h : r_R b m S lm s) : b ≠ 188 := by
  obtain ⟨-, -, -, -, -, -, N, g, -⟩ := h
  rintro rfl
  rw [qs188] at g
  cases g
theorem sp_hereM {b : Int} {m : qm} {S : Int → Int} {lm : Int} {s : a_R} (h : r_R b m S lm s) (h1 : s.2 = -1) : q_Ev yX12_here cX12_here 1 (some .int) 1 0 0 [(2, 188)] (q_sh0, q_rb b, m) (qK (q_rb b) (fun r m' => m' = m ∧ (∀ ch, 0 ≤ ch → (r = ch ↔ t_is S lm s ch)) ∧ (r = S s.1 ∨ r < 0))) := by
  obtain ⟨e2, e4, e3, ok, tx, b0, N, hb, hN⟩ := h
  obtain ⟨k1, k2, k3, k4, k5⟩ := ok
  have e3 := e3 h1
  refine q_enter (by decide +kernel) (by simp) (Nat.le_of_ble_eq_true rfl) ?_
  refine bkX12_here_0 hb b0 (fun z => ⟨rfl, fun ch a => ⟨fun y => by omega, fun y => by omega⟩, Or.inr (by omega)⟩) (fun z1 z2 => ⟨rfl, fun ch a => ⟨fun y => by omega, fun y => by omega⟩, Or.inr (by omega)⟩) (fun _ _ => by omega) (fun z1 z2 => ?_)
  have t := tx s.1 k1 (by omega)
  rw [e3]
  refine ⟨rfl, fun ch a => ⟨fun y => ⟨h1, by omega, by omega⟩, fun y => by have := y.2.2; omega⟩, by omega⟩
theorem sp_faultM {b p : Int} {m : qm} {S : Int → Int} {lm : Int} {s : a_R} (h : r_R b m S lm s) (h0 : -1 ≤ p) (h1 : p ≤ 80) : q_Ev yX12_fault cX12_fault 2 none 2 0 0 [(2, 188), (0, p)] (q_sh0, q_rb b, m) (qK (q_rb b) (fun _ m' => r_R b m' S lm (t_fl s p) ∧ q_fx (fun c i => c = 188 ∧ i = 22) m m')) := by
  have e4 := h.2.1
  have ok := h.2.2.2.1.fl h0 h1
  have hb := h.b8
  refine q_enter (by decide +kernel) (by simp) (Nat.le_of_ble_eq_true rfl) ?_
  have fl2 : (t_fl s p).2 = if s.2 = -1 then p else s.2 := rfl
  refine bkX12_fault_0 (fun z => ?_) (fun z => ⟨h.set q_fx.rf hb (fun y => ?_) ?_ ok, q_fx.rf⟩)
  · have f : q_fx (fun c i => c = 188 ∧ i = 22) m (q_up m 188 22 p) := q_fx.rf.up ⟨rfl, rfl⟩
    refine ⟨h.set (f.mono (fun c i z => by unfold x_rM; omega)) hb (fun y => ?_) ?_ ok, f⟩
    · rw [q_up_i (by decide)]; exact h.2.2.1 (by omega)
    · rw [q_up_s, fl2, if_pos (by omega)]
  · rw [fl2, if_neg (by omega)] at y; omega
  · rw [fl2, if_neg (by omega)]; exact e4
theorem sp_passesM {b ch : Int} {m : qm} {S : Int → Int} {lm : Int} {s : a_R} (h : r_R b m S lm s) (h0 : 0 ≤ ch) : q_Ev yX12_passes cX12_passes 2 (some .boolean) 2 0 0 [(2, 188), (0, ch)] (q_sh0, q_rb b, m) (qK (q_rb b) (fun r m' => ((r = 1 ∧ t_is S lm s ch ∧ r_R b m' S lm (s.1 + 1, s.2)) ∨ (r = 0 ∧ ¬ t_is S lm s ch ∧ r_R b m' S lm s)) ∧ q_fx x_rM m m')) := by
  have e4 := h.2.1
  have hb := h.b8
  obtain ⟨k1, k2, k3, -⟩ := h.2.2.2.1
  refine q_enter (by decide +kernel) (by simp) (Nat.le_of_ble_eq_true rfl) ?_
  refine bkX12_passes_0 (P2 := fun r m' => m' = m ∧ (∀ ch, 0 ≤ ch → (r = ch ↔ t_is S lm s ch)) ∧ (r = S s.1 ∨ r < 0)) (fun z => sp_hereM h (by omega)) ?_ ?_ ?_ (fun z => ⟨Or.inr ⟨rfl, fun y => z (by omega), h⟩, q_fx.rf⟩)
  · rintro z r m1 ⟨rfl, g, -⟩ _ y
    have := h.2.2.1 (by omega)
    exact q_in_of (by omega) (by omega)
  · rintro z r m1 ⟨rfl, g, -⟩ _ y
    have e3 := h.2.2.1 (by omega)
    have y := (g ch h0).mp y
    have f : q_fx x_rM m1 (q_up m1 188 21 (m1 188 21 + 1)) := q_fx.rf.up (by unfold x_rM; omega)
    exact ⟨Or.inl ⟨rfl, y, h.set f hb (fun _ => by rw [q_up_s, e3]) ((q_up_i (by decide)).trans e4) (h.2.2.2.1.nx (S := S) y.2.1)⟩, f⟩
  · rintro z r m1 ⟨rfl, g, -⟩ _ y
    exact ⟨Or.inr ⟨rfl, fun w => y ((g ch h0).mpr w), h⟩, q_fx.rf⟩
theorem t_nd_fl {S : Int → Int} {lm ch : Int} {s : a_R} (h : s.2 ≠ -1) : t_nd S lm ch s = s := by
  unfold t_nd
  rw [if_neg (fun z => h z.1)]
  unfold t_fl
  rw [if_neg h]
theorem sp_needM {b ch : Int} {m : qm} {S : Int → Int} {lm : Int} {s : a_R} (h : r_R b m S lm s) (h0 : 0 ≤ ch) : q_Ev yX12_need cX12_need 2 none 3 0 0 [(2, 188), (0, ch)] (q_sh0, q_rb b, m) (qK (q_rb b) (fun _ m' => r_R b m' S lm (t_nd S lm ch s) ∧ q_fx x_rM m m')) := by
  refine q_enter (by decide +kernel) (by simp) (Nat.le_of_ble_eq_true rfl) ?_
  refine bkX12_need_0 (P3 := fun _ _ _ m' => r_R b m' S lm (t_nd S lm ch s) ∧ q_fx x_rM m m') (sp_passesM h h0) ?_ ?_ (fun _ _ _ _ _ _ _ z _ => z)
  · rintro r m1 ⟨g, f⟩ _ z
    rcases g with g | g
    · refine ⟨?_, f⟩
      unfold t_nd; rw [if_pos g.2.1]; exact g.2.2
    · exact absurd g.1 z
  · rintro r m1 ⟨g, f⟩ _ z
    rcases g with g | g
    · omega
    · have c := g.2.2
      obtain ⟨k1, k2, k3, -⟩ := c.2.2.2.1
      by_cases hs : s.2 = -1
      · rw [c.2.2.1 hs]
        refine (sp_faultM c (by omega) (by omega)).post (fun r m' y => ⟨?_, f.tr (y.2.mono (fun c i z => by unfold x_rM; omega))⟩)
        unfold t_nd; rw [if_neg g.2.1]; exact y.1
      · refine q_enter (by decide +kernel) (by simp) (Nat.le_of_ble_eq_true rfl) ?_
        exact bkX12_fault_0 (fun y => absurd (c.2.1.symm.trans y) hs) (fun _ => ⟨by rw [t_nd_fl hs]; exact c, f⟩)
theorem sp_numberM {b lo hi : Int} {m : qm} {S : Int → Int} {lm : Int} {s : a_R} (k : Nat) (hk : 1 ≤ k ∧ k ≤ 3) (h : r_R b m S lm s) : q_Ev yX12_number cX12_number 6 (some .int) 3 0 0 [(2, 188), (0, (k : Int)), (0, lo), (0, hi)] (q_sh0, q_rb b, m) (qK (q_rb b) (fun r m' => r_R b m' S lm (if s.2 = -1 then t_ck lo hi (t_nm S lm k s) else s) ∧ r = (if (if s.2 = -1 then t_ck lo hi (t_nm S lm k s) else s).2 = -1 then (t_nm S lm k s).1 else 0) ∧ q_fx x_rM m m')) := by
  have e4 := h.2.1
  have hb := h.b8
  refine q_enter (by decide +kernel) (by simp) (Nat.le_of_ble_eq_true rfl) ?_
  refine bkX12_number_0 (fun z => ?_) (fun z => ?_)
  · have hs : s.2 = -1 := by omega
    have e3 := h.2.2.1 hs
    obtain ⟨k1, k2, k3, k4, k5⟩ := h.2.2.2.1
    rw [if_pos hs, e3]
    have hck : ∀ v (u : a_R), (v, u) = t_nm S lm k s → u.2 = -1 → (lo ≤ v ∧ v ≤ hi) → t_ck lo hi (t_nm S lm k s) = u ∧ (t_nm S lm k s).1 = v := fun v u he hu hr => by
      rw [← he]; unfold t_ck; exact ⟨by rw [if_neg (fun y => y.2 hr)], rfl⟩
    have hck2 : ∀ v (u : a_R), (v, u) = t_nm S lm k s → u.2 = -1 → ¬ (lo ≤ v ∧ v ≤ hi) → t_ck lo hi (t_nm S lm k s) = (u.1, u.1 - 1) := fun v u he hu hr => by
      rw [← he]; unfold t_ck; rw [if_pos ⟨hu, hr⟩]
    have go : ∀ (d : Nat) (v : Int) (m' : qm) (u : a_R), s.1 < u.1 → u.1 + d = s.1 + k → u.2 = -1 → 0 ≤ v → v < 10 ^ (k - d) → r_R b m' S lm u → q_fx x_rM m m' → t_mr S lm d v u = t_nm S lm k s → q_At yX12_number cX12_number 6 (some .int) 3 0 0 (qK (q_rb b) (fun r m' => r_R b m' S lm (t_ck lo hi (t_nm S lm k s)) ∧ r = (if (t_ck lo hi (t_nm S lm k s)).2 = -1 then (t_nm S lm k s).1 else 0) ∧ q_fx x_rM m m')) 18 [(2, 188), (0, (k : Int)), (0, lo), (0, hi), (0, s.1), (0, v)] [] (q_sh0, q_rb b, m') := by
      intro d
      induction d with
      | zero =>
        intro v m' u hu hd uf v0 v1 c fx he
        have he : (v, u) = t_nm S lm k s := he
        have ea := c.2.2.1 uf
        have ew := c.2.1
        obtain ⟨q1, q2, q3, -⟩ := c.2.2.2.1
        refine bkX12_number_18 (P5 := fun _ m5 => r_R b m5 S lm (u.1, u.1 - 1) ∧ q_fx x_rM m m5) (P7 := fun _ _ => True) (P9 := fun _ _ => True) (P11 := fun _ _ _ _ => True) (P15 := fun _ _ _ _ => True) (P17 := fun _ _ _ _ => True) (q_in_of (by omega) (by omega)) (fun _ _ hr _ => ?_) (fun _ _ _ y => absurd (by omega) y) (fun _ _ _ => q_in_of (by omega) (by omega)) (fun _ _ hr => ?_) ?_ ?_ (fun _ y => absurd y (by omega)) (fun _ y => absurd y (by omega)) (fun _ y => absurd y (by omega)) (fun y => absurd y (by omega)) (fun y => absurd y (by omega)) (fun y => absurd y (by omega)) (fun y => absurd y (by omega)) (fun y => absurd y (by omega)) (fun y => absurd y (by omega)) (fun y => absurd y (by omega)) (fun y => absurd y (by omega)) (fun y => absurd y (by omega)) (fun y => absurd y (by omega)) (fun y => absurd y (by omega)) (fun y => absurd y (by omega)) (fun y => absurd y (by omega)) (fun y => absurd y (by omega))
        · obtain ⟨a1, a2⟩ := hck v u he uf hr
          rw [a1, a2, if_pos uf]; exact ⟨c, rfl, fx⟩
        · rw [ea]
          refine (sp_faultM c (by omega) (by omega)).post (fun r m5 y => ⟨?_, fx.tr (y.2.mono (fun c i z => by unfold x_rM; omega))⟩)
          have : t_fl u (u.1 - 1) = (u.1, u.1 - 1) := by unfold t_fl; rw [if_pos uf]
          rw [← this]; exact y.1
        · rintro _ _ hr r5 m5 ⟨g, f5⟩ _ y
          have := g.2.1
          have e : (u.1, u.1 - 1).2 = u.1 - 1 := rfl
          omega
        · rintro _ _ hr r5 m5 ⟨g, f5⟩ _ y
          rw [hck2 v u he uf hr, if_neg (by show ¬ u.1 - 1 = -1; omega)]
          exact ⟨g, rfl, f5⟩
      | succ d ih =>
        intro v m' u hu hd uf v0 v1 c fx he
        simp only [t_mr] at he
        have ea := c.2.2.1 uf
        have ew := c.2.1
        obtain ⟨q1, q2, q3, -⟩ := c.2.2.2.1
        have hv : v < 100 := by
          have := Int.lt_of_lt_of_le v1 (show (10 : Int) ^ (k - (d + 1)) ≤ 10 ^ 2 from by
            have h3 : k - (d + 1) = 0 ∨ k - (d + 1) = 1 ∨ k - (d + 1) = 2 := by omega
            rcases h3 with h3 | h3 | h3 <;> rw [h3] <;> decide)
          omega
        refine bkX12_number_18 (P5 := fun _ _ => True) (P7 := fun _ _ => True) (P9 := fun r m9 => m9 = m' ∧ (∀ ch, 0 ≤ ch → (r = ch ↔ t_is S lm u ch)) ∧ (r = S u.1 ∨ r < 0)) (P11 := fun _ _ r m9 => m9 = m' ∧ (∀ ch, 0 ≤ ch → (r = ch ↔ t_is S lm u ch)) ∧ (r = S u.1 ∨ r < 0)) (P15 := fun _ _ _ m5 => r_R b m5 S lm (u.1, u.1 - 1) ∧ q_fx x_rM m m5) (P17 := fun _ _ _ _ => True) (q_in_of (by omega) (by omega)) (fun y => absurd y (by omega)) (fun y => absurd y (by omega)) (fun y => absurd y (by omega)) (fun y => absurd y (by omega)) (fun y => absurd y (by omega)) (fun y => absurd y (by omega)) (fun y => absurd y (by omega)) (fun y => absurd y (by omega)) (fun y => absurd y (by omega)) (fun _ => sp_hereM c uf) (fun _ _ _ _ _ _ => q_in_of (by omega) (by omega)) ?_ ?_ ?_ ?_ ?_ ?_ ?_ ?_ ?_ ?_ ?_ ?_
        · rintro _ r9 m9 ⟨rfl, g9⟩ _ _
          exact sp_hereM c uf
        · rintro _ r9 m9 ⟨rfl, g9, -⟩ _ dg r11 m11 ⟨rfl, g11, -⟩ _
          have a := (g9 r9 (by omega)).mp rfl
          have e11 := (g11 r9 (by omega)).mpr a
          exact ⟨q_in_of (by omega) (by omega), q_in_of (by omega) (by omega), q_in_of (by omega) (by omega)⟩
        · rintro _ r9 m9 ⟨rfl, g9, -⟩ _ dg r11 m11 ⟨rfl, g11, -⟩ _
          have a := (g9 r9 (by omega)).mp rfl
          have e11 := (g11 r9 (by omega)).mpr a
          have a3 := a.2.2
          have td : t_dg S lm u := ⟨uf, a.2.1, by omega, by omega⟩
          rw [if_pos td] at he
          have f : q_fx x_rM m11 (q_up m11 188 21 (m11 188 21 + 1)) := q_fx.rf.up (by unfold x_rM; omega)
          rw [show 10 * v + r11 - 48 = v * 10 + (S u.1 - 48) by omega]
          refine ih _ _ (u.1 + 1, u.2) (by show s.1 < u.1 + 1; omega) (by show u.1 + 1 + d = s.1 + k; omega) uf (by omega) ?_ (c.set f hb (fun _ => by rw [q_up_s, ea]) ((q_up_i (by decide)).trans ew) (c.2.2.2.1.nx (S := S) a.2.1)) (fx.tr f) he
          have e5 : k - d = (k - (d + 1)) + 1 := by omega
          rw [e5, Int.pow_succ]
          omega
        · rintro _ r9 m9 ⟨rfl, g9, g10⟩ _ dg hne hr _
          have nd : ¬ t_dg S lm u := fun y => dg (by have := (g9 (S u.1) (by have := y.2.2; omega)).mpr ⟨y.1, y.2.1, rfl⟩; have := y.2.2; omega)
          rw [if_neg nd] at he
          obtain ⟨a1, a2⟩ := hck v u he uf hr
          rw [a1, a2, if_pos uf]; exact ⟨c, rfl, fx⟩
        · rintro _ r9 m9 ⟨rfl, g9, g10⟩ _ dg hne hr y
          exact absurd (by omega) y
        · rintro _ r9 m9 ⟨rfl, g9, g10⟩ _ dg hne hr
          exact q_in_of (by omega) (by omega)
        · rintro _ r9 m9 ⟨rfl, g9, g10⟩ _ dg hne hr
          rw [ea]
          refine (sp_faultM c (by omega) (by omega)).post (fun r m5 y => ⟨?_, fx.tr (y.2.mono (fun c i z => by unfold x_rM; omega))⟩)
          have : t_fl u (u.1 - 1) = (u.1, u.1 - 1) := by unfold t_fl; rw [if_pos uf]
          rw [← this]; exact y.1
        · rintro _ r9 m9 ⟨rfl, g9, g10⟩ _ dg hne hr r15 m15 ⟨g, f5⟩ _ y
          have := g.2.1
          have e : (u.1, u.1 - 1).2 = u.1 - 1 := rfl
          omega
        · rintro _ r9 m9 ⟨rfl, g9, g10⟩ _ dg hne hr r15 m15 ⟨g, f5⟩ _ y
          have nd : ¬ t_dg S lm u := fun y => dg (by have := (g9 (S u.1) (by have := y.2.2; omega)).mpr ⟨y.1, y.2.1, rfl⟩; have := y.2.2; omega)
          rw [if_neg nd] at he
          rw [hck2 v u he uf hr, if_neg (by show ¬ u.1 - 1 = -1; omega)]
          exact ⟨g, rfl, f5⟩
        · rintro _ r9 m9 ⟨rfl, g9, g10⟩ _ dg y
          exact absurd y (by omega)
        · rintro _ r9 m9 ⟨rfl, g9, g10⟩ _ dg y
          exact absurd y (by omega)
        · rintro _ r9 m9 ⟨rfl, g9, g10⟩ _ dg y
          exact absurd y (by omega)
    -- the first sign
    have w := z
    refine bkX12_number_18 (P5 := fun _ _ => True) (P7 := fun _ _ => True) (P9 := fun r m9 => m9 = m ∧ (∀ ch, 0 ≤ ch → (r = ch ↔ t_is S lm s ch)) ∧ (r = S s.1 ∨ r < 0)) (P11 := fun _ _ r m9 => m9 = m ∧ (∀ ch, 0 ≤ ch → (r = ch ↔ t_is S lm s ch)) ∧ (r = S s.1 ∨ r < 0)) (P15 := fun _ _ _ _ => True) (P17 := fun _ _ _ m5 => r_R b m5 S lm (t_fl s s.1) ∧ q_fx x_rM m m5) (q_in_of (by omega) (by omega)) (fun y => absurd y (by omega)) (fun y => absurd y (by omega)) (fun y => absurd y (by omega)) (fun y => absurd y (by omega)) (fun y => absurd y (by omega)) (fun y => absurd y (by omega)) (fun y => absurd y (by omega)) (fun y => absurd y (by omega)) (fun y => absurd y (by omega)) (fun _ => sp_hereM h hs) (fun _ _ _ _ _ _ => q_in_of (by omega) (by omega)) ?_ ?_ ?_ ?_ ?_ ?_ ?_ ?_ ?_ ?_ ?_ ?_
    · rintro _ r9 m9 ⟨rfl, g9⟩ _ _
      exact sp_hereM h hs
    · rintro _ r9 m9 ⟨rfl, g9, -⟩ _ dg r11 m11 ⟨rfl, g11, -⟩ _
      have a := (g9 r9 (by omega)).mp rfl
      have e11 := (g11 r9 (by omega)).mpr a
      exact ⟨q_in_of (by omega) (by omega), q_in_of (by omega) (by omega), q_in_of (by omega) (by omega)⟩
    · rintro _ r9 m9 ⟨rfl, g9, -⟩ _ dg r11 m11 ⟨rfl, g11, -⟩ _
      have a := (g9 r9 (by omega)).mp rfl
      have e11 := (g11 r9 (by omega)).mpr a
      have a3 := a.2.2
      have td : t_dg S lm s := ⟨hs, a.2.1, by omega, by omega⟩
      have f : q_fx x_rM m11 (q_up m11 188 21 (m11 188 21 + 1)) := q_fx.rf.up (by unfold x_rM; omega)
      rw [show 10 * 0 + r11 - 48 = S s.1 - 48 by omega]
      refine go (k - 1) _ _ (s.1 + 1, s.2) (by show s.1 < s.1 + 1; omega) (by show s.1 + 1 + ((k - 1 : Nat) : Int) = s.1 + k; omega) hs (by omega) ?_ (h.set f hb (fun _ => by rw [q_up_s, e3]) ((q_up_i (by decide)).trans e4) (h.2.2.2.1.nx (S := S) a.2.1)) f ?_
      · rw [show k - (k - 1) = 1 by omega]; omega
      · unfold t_nm; rw [if_pos td]
    · rintro _ r9 m9 ⟨rfl, g9, g10⟩ _ dg y
      exact absurd e3 y
    · rintro _ r9 m9 ⟨rfl, g9, g10⟩ _ dg y
      exact absurd e3 y
    · rintro _ r9 m9 ⟨rfl, g9, g10⟩ _ dg y
      exact absurd e3 y
    · rintro _ r9 m9 ⟨rfl, g9, g10⟩ _ dg y
      exact absurd e3 y
    · rintro _ r9 m9 ⟨rfl, g9, g10⟩ _ dg y
      exact absurd e3 y
    · rintro _ r9 m9 ⟨rfl, g9, g10⟩ _ dg y
      exact absurd e3 y
    · rintro _ r9 m9 ⟨rfl, g9, g10⟩ _ dg y
      rw [e3]
      exact (sp_faultM h (by omega) (by omega)).post (fun r m5 y => ⟨y.1, y.2.mono (fun c i z => by unfold x_rM; omega)⟩)
    · rintro _ r9 m9 ⟨rfl, g9, g10⟩ _ dg y r17 m17 ⟨g, f⟩ _ q
      have := g.2.1
      have e : (t_fl s s.1).2 = if s.2 = -1 then s.1 else s.2 := rfl
      rw [if_pos hs] at e
      omega
    · rintro _ r9 m9 ⟨rfl, g9, g10⟩ _ dg y r17 m17 ⟨g, f⟩ _ q
      have nd : ¬ t_dg S lm s := fun y => dg (by have := (g9 (S s.1) (by have := y.2.2; omega)).mpr ⟨y.1, y.2.1, rfl⟩; have := y.2.2; omega)
      have e : (t_fl s s.1).2 = s.1 := by unfold t_fl; show (if s.2 = -1 then s.1 else s.2) = s.1; rw [if_pos hs]
      have en : t_nm S lm k s = (0, t_fl s s.1) := by unfold t_nm; rw [if_neg nd]
      have ec : t_ck lo hi (t_nm S lm k s) = t_fl s s.1 := by
        rw [en]; unfold t_ck; rw [if_neg (fun y => by have : (t_fl s s.1).2 = -1 := y.1; omega)]
      rw [ec, if_neg (by omega)]
      exact ⟨g, rfl, f⟩
  · have hs : s.2 ≠ -1 := by omega
    rw [if_neg hs, if_neg hs]
    exact ⟨h, rfl, q_fx.rf⟩
