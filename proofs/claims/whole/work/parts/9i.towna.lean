/-! ===== reading THE TOWN: what is read, told apart from both memories ===== -/
def t_rn (S : Int → Int) (lm lo hi : Int) (k : Nat) (s : a_R) : a_R := t_ck lo hi (t_nm S lm k s)
section TRD
variable {S : Int → Int} {lm lo hi ch : Int} {k : Nat} {s : a_R}
theorem t_fl_fl {p : Int} (h : s.2 ≠ -1) : t_fl s p = s := by unfold t_fl; rw [if_neg h]
theorem t_fl_ok {p : Int} (h : s.2 = -1) : t_fl s p = (s.1, p) := by unfold t_fl; rw [if_pos h]
theorem t_nm_fl (h : s.2 ≠ -1) : t_nm S lm k s = (0, s) := by unfold t_nm; rw [if_neg (fun z => h z.1), t_fl_fl h]
theorem t_nm_nd (h : ¬ t_dg S lm s) : t_nm S lm k s = (0, t_fl s s.1) := by unfold t_nm; rw [if_neg h]
theorem t_nm_1 (h : t_dg S lm s) : t_nm S lm 1 s = (S s.1 - 48, (s.1 + 1, s.2)) := by unfold t_nm; rw [if_pos h]; rfl
theorem t_ck_in {p : Int × a_R} (h : lo ≤ p.1 ∧ p.1 ≤ hi) : t_ck lo hi p = p.2 := by unfold t_ck; rw [if_neg (fun z => z.2 h)]
theorem t_ck_out {p : Int × a_R} (h : ¬ (lo ≤ p.1 ∧ p.1 ≤ hi)) : t_ck lo hi p = t_fl p.2 (p.2.1 - 1) := by
  unfold t_ck t_fl
  by_cases e : p.2.2 = -1
  · rw [if_pos ⟨e, h⟩, if_pos e]
  · rw [if_neg (fun z => e z.1), if_neg e]
theorem t_rn_fl (h : s.2 ≠ -1) : t_rn S lm lo hi k s = s := by unfold t_rn; rw [t_nm_fl h]; unfold t_ck; rw [if_neg (fun z => h z.1)]
theorem t_rn_nd (h : ¬ t_dg S lm s) (ok : t_ok lm s) : t_rn S lm lo hi k s = t_fl s s.1 := by
  by_cases e : s.2 = -1
  · unfold t_rn; rw [t_nm_nd h]; unfold t_ck; rw [if_neg (fun z => by have z := z.1; have z : (t_fl s s.1).2 = -1 := z; rw [t_fl_ok e] at z; have := ok.1; have z : s.1 = -1 := z; omega)]
  · rw [t_rn_fl e, t_fl_fl e]
theorem t_rn_ok (h : t_ok lm s) : t_ok lm (t_rn S lm lo hi k s) := t_ck_ok (t_nm_ok h)
theorem t_rn_if : (if s.2 = -1 then t_ck lo hi (t_nm S lm k s) else s) = t_rn S lm lo hi k s := by
  by_cases h : s.2 = -1
  · rw [if_pos h]; rfl
  · rw [if_neg h, t_rn_fl h]
theorem t_nd_p (h : t_ok lm s) (hf : (t_nd S lm ch s).2 = -1) : t_is S lm s ch ∧ t_nd S lm ch s = (s.1 + 1, s.2) := by
  unfold t_nd at hf ⊢
  by_cases z : t_is S lm s ch
  · rw [if_pos z]; exact ⟨z, rfl⟩
  · rw [if_neg z] at hf
    exfalso
    by_cases e : s.2 = -1
    · rw [t_fl_ok e] at hf; have := h.1; have hf : s.1 = -1 := hf; omega
    · rw [t_fl_fl e] at hf; exact e hf
theorem t_rn_p (h : t_ok lm s) (hf : (t_rn S lm lo hi k s).2 = -1) : t_dg S lm s ∧ lo ≤ (t_nm S lm k s).1 ∧ (t_nm S lm k s).1 ≤ hi ∧ s.1 < (t_rn S lm lo hi k s).1 ∧ t_rn S lm lo hi k s = (t_nm S lm k s).2 := by
  by_cases r : lo ≤ (t_nm S lm k s).1 ∧ (t_nm S lm k s).1 ≤ hi
  · have e : t_rn S lm lo hi k s = (t_nm S lm k s).2 := t_ck_in r
    rw [e] at hf ⊢
    have q := t_nm_p h hf
    exact ⟨q.1, r.1, r.2, q.2, rfl⟩
  · exfalso
    have e : t_rn S lm lo hi k s = t_fl (t_nm S lm k s).2 ((t_nm S lm k s).2.1 - 1) := t_ck_out r
    rw [e] at hf
    by_cases q : (t_nm S lm k s).2.2 = -1
    · rw [t_fl_ok q] at hf
      have := (t_nm_p h q).2
      have := h.1
      have hf : (t_nm S lm k s).2.1 - 1 = -1 := hf
      omega
    · rw [t_fl_fl q] at hf; exact q hf
end TRD
/-- a JAR -/
def j_1 (S : Int → Int) (lm : Int) (s : a_R) : a_R := t_rn S lm 1 60 2 s
def j_2 (S : Int → Int) (lm : Int) (s : a_R) : a_R := t_nd S lm 47 (j_1 S lm s)
def j_3 (S : Int → Int) (lm : Int) (s : a_R) : a_R := t_rn S lm 0 (t_nm S lm 2 s).1 2 (j_2 S lm s)
def j_4 (S : Int → Int) (lm : Int) (s : a_R) : a_R := t_nd S lm 44 (j_3 S lm s)
def j_5 (S : Int → Int) (lm : Int) (s : a_R) : a_R := t_rn S lm 0 9 1 (j_4 S lm s)
def j_6 (S : Int → Int) (lm : Int) (s : a_R) : a_R := t_nd S lm 44 (j_5 S lm s)
def j_7 (S : Int → Int) (lm : Int) (s : a_R) : a_R := t_rn S lm 0 5 1 (j_6 S lm s)
def j_8 (S : Int → Int) (lm : Int) (s : a_R) : a_R := t_nd S lm 44 (j_7 S lm s)
def j_9 (S : Int → Int) (lm : Int) (s : a_R) : a_R := t_rn S lm 0 9 1 (j_8 S lm s)
def j_v1 (S : Int → Int) (lm : Int) (s : a_R) : Int := (t_nm S lm 2 s).1
def j_v2 (S : Int → Int) (lm : Int) (s : a_R) : Int := (t_nm S lm 2 (j_2 S lm s)).1
def j_v3 (S : Int → Int) (lm : Int) (s : a_R) : Int := (t_nm S lm 1 (j_4 S lm s)).1
def j_v4 (S : Int → Int) (lm : Int) (s : a_R) : Int := (t_nm S lm 1 (j_6 S lm s)).1
def j_v5 (S : Int → Int) (lm : Int) (s : a_R) : Int := (t_nm S lm 1 (j_8 S lm s)).1
def j_a (S : Int → Int) (lm : Int) (s : a_R) : a_R := ((j_9 S lm s).1 + 1, (j_9 S lm s).2)
def t_bl (He : Int → Int) (j v : Int) (p : Int × a_R) : a_R := if j ≤ p.1 ∨ v ≤ He p.1 then t_fl p.2 (p.2.1 - 1) else p.2
def j_e (S : Int → Int) (lm : Int) (He : Int → Int) (j : Int) (s : a_R) : a_R := if t_is S lm (j_9 S lm s) 62 then t_bl He j (j_v5 S lm s) (t_nm S lm 1 (j_a S lm s)) else j_9 S lm s
def j_v6 (S : Int → Int) (lm : Int) (s : a_R) : Int := if t_is S lm (j_9 S lm s) 62 then (t_nm S lm 1 (j_a S lm s)).1 else -1
section JAR
variable {S : Int → Int} {lm j : Int} {He : Int → Int} {s : a_R}
theorem j_ok1 (h : t_ok lm s) : t_ok lm (j_1 S lm s) := t_rn_ok h
theorem j_ok2 (h : t_ok lm s) : t_ok lm (j_2 S lm s) := (j_ok1 h).nd
theorem j_ok3 (h : t_ok lm s) : t_ok lm (j_3 S lm s) := t_rn_ok (j_ok2 h)
theorem j_ok4 (h : t_ok lm s) : t_ok lm (j_4 S lm s) := (j_ok3 h).nd
theorem j_ok5 (h : t_ok lm s) : t_ok lm (j_5 S lm s) := t_rn_ok (j_ok4 h)
theorem j_ok6 (h : t_ok lm s) : t_ok lm (j_6 S lm s) := (j_ok5 h).nd
theorem j_ok7 (h : t_ok lm s) : t_ok lm (j_7 S lm s) := t_rn_ok (j_ok6 h)
theorem j_ok8 (h : t_ok lm s) : t_ok lm (j_8 S lm s) := (j_ok7 h).nd
theorem j_ok9 (h : t_ok lm s) : t_ok lm (j_9 S lm s) := t_rn_ok (j_ok8 h)
theorem t_bl_p {v : Int} {p : Int × a_R} (h : t_ok lm p.2) (hp : p.2.2 = -1 → 1 ≤ p.2.1) (hf : (t_bl He j v p).2 = -1) : p.2.2 = -1 ∧ p.1 < j ∧ He p.1 < v ∧ t_bl He j v p = p.2 := by
  unfold t_bl at hf ⊢
  by_cases c : j ≤ p.1 ∨ v ≤ He p.1
  · rw [if_pos c] at hf
    exfalso
    by_cases q : p.2.2 = -1
    · rw [t_fl_ok q] at hf; have := hp q; have hf : p.2.1 - 1 = -1 := hf; omega
    · rw [t_fl_fl q] at hf; exact q hf
  · rw [if_neg c] at hf ⊢
    exact ⟨hf, by omega, by omega, rfl⟩
theorem j_9p (h : t_ok lm s) (hf : (j_9 S lm s).2 = -1) : (1 ≤ j_v1 S lm s ∧ j_v1 S lm s ≤ 60) ∧ (0 ≤ j_v2 S lm s ∧ j_v2 S lm s ≤ j_v1 S lm s) ∧ (0 ≤ j_v3 S lm s ∧ j_v3 S lm s ≤ 9) ∧ (0 ≤ j_v4 S lm s ∧ j_v4 S lm s ≤ 5) ∧ (0 ≤ j_v5 S lm s ∧ j_v5 S lm s ≤ 9) ∧ s.1 < (j_9 S lm s).1 ∧ t_dg S lm s := by
  obtain ⟨a9, b9, c9, d9, -⟩ := t_rn_p (j_ok8 h) hf
  obtain ⟨a8, e8⟩ := t_nd_p (j_ok7 h) a9.1
  obtain ⟨a7, b7, c7, d7, -⟩ := t_rn_p (j_ok6 h) a8.1
  obtain ⟨a6, e6⟩ := t_nd_p (j_ok5 h) a7.1
  obtain ⟨a5, b5, c5, d5, -⟩ := t_rn_p (j_ok4 h) a6.1
  obtain ⟨a4, e4⟩ := t_nd_p (j_ok3 h) a5.1
  obtain ⟨a3, b3, c3, d3, -⟩ := t_rn_p (j_ok2 h) a4.1
  obtain ⟨a2, e2⟩ := t_nd_p (j_ok1 h) a3.1
  obtain ⟨a1, b1, c1, d1, -⟩ := t_rn_p h a2.1
  have f8 : (j_8 S lm s).1 = (j_7 S lm s).1 + 1 := by unfold j_8; rw [e8]
  have f6 : (j_6 S lm s).1 = (j_5 S lm s).1 + 1 := by unfold j_6; rw [e6]
  have f4 : (j_4 S lm s).1 = (j_3 S lm s).1 + 1 := by unfold j_4; rw [e4]
  have f2 : (j_2 S lm s).1 = (j_1 S lm s).1 + 1 := by unfold j_2; rw [e2]
  have d9 : (j_8 S lm s).1 < (j_9 S lm s).1 := d9
  have d7 : (j_6 S lm s).1 < (j_7 S lm s).1 := d7
  have d5 : (j_4 S lm s).1 < (j_5 S lm s).1 := d5
  have d3 : (j_2 S lm s).1 < (j_3 S lm s).1 := d3
  have d1 : s.1 < (j_1 S lm s).1 := d1
  exact ⟨⟨b1, c1⟩, ⟨b3, c3⟩, ⟨b5, c5⟩, ⟨b7, c7⟩, ⟨b9, c9⟩, by omega, a1⟩
theorem j_ao (h : t_ok lm s) (z : t_is S lm (j_9 S lm s) 62) : t_ok lm (j_a S lm s) := (j_ok9 h).nx (S := S) z.2.1
theorem j_eo (h : t_ok lm s) : t_ok lm (j_e S lm He j s) := by
  unfold j_e
  split
  · rename_i z
    have o := t_nm_ok (S := S) (k := 1) (j_ao h z)
    unfold t_bl
    split
    · exact o.fl (by have := o.1; omega) (by have := o.2.1; have := o.2.2.1; omega)
    · exact o
  · exact j_ok9 h
theorem j_p (h : t_ok lm s) (hf : (j_e S lm He j s).2 = -1) : (1 ≤ j_v1 S lm s ∧ j_v1 S lm s ≤ 60) ∧ (0 ≤ j_v2 S lm s ∧ j_v2 S lm s ≤ j_v1 S lm s) ∧ (0 ≤ j_v3 S lm s ∧ j_v3 S lm s ≤ 9) ∧ (0 ≤ j_v4 S lm s ∧ j_v4 S lm s ≤ 5) ∧ (0 ≤ j_v5 S lm s ∧ j_v5 S lm s ≤ 9) ∧ (j_v6 S lm s = -1 ∨ (0 ≤ j_v6 S lm s ∧ j_v6 S lm s < j ∧ He (j_v6 S lm s) < j_v5 S lm s)) ∧ s.1 < (j_e S lm He j s).1 ∧ t_dg S lm s := by
  unfold j_e at hf ⊢
  unfold j_v6
  by_cases z : t_is S lm (j_9 S lm s) 62
  · rw [if_pos z] at hf ⊢
    rw [if_pos z]
    have o := j_ao h z
    have pr : (t_nm S lm 1 (j_a S lm s)).2.2 = -1 → (j_9 S lm s).1 + 1 < (t_nm S lm 1 (j_a S lm s)).2.1 := fun q => (t_nm_p o q).2
    have o9 := (j_ok9 (S := S) h).1
    obtain ⟨q1, q2, q3, q4⟩ := t_bl_p (t_nm_ok o) (fun q => by have := pr q; omega) hf
    obtain ⟨a1, a2, a3, a4, a5, a6, a7⟩ := j_9p h z.1
    rw [q4]
    have := pr q1
    exact ⟨a1, a2, a3, a4, a5, Or.inr ⟨(t_nm_v (by decide)).1, q2, q3⟩, by omega, a7⟩
  · rw [if_neg z] at hf ⊢
    rw [if_neg z]
    obtain ⟨a1, a2, a3, a4, a5, a6, a7⟩ := j_9p h hf
    exact ⟨a1, a2, a3, a4, a5, Or.inl rfl, a6, a7⟩
theorem j_nd (h : ¬ t_dg S lm s) (ok : t_ok lm s) (hs : s.2 = -1) : j_e S lm He j s = t_fl s s.1 := by
  have e1 : j_1 S lm s = t_fl s s.1 := t_rn_nd h ok
  have hf : (t_fl s s.1).2 ≠ -1 := by rw [t_fl_ok hs]; have := ok.1; show s.1 ≠ -1; omega
  have e2 : j_2 S lm s = t_fl s s.1 := by unfold j_2; rw [e1, t_nd_fl hf]
  have e3 : j_3 S lm s = t_fl s s.1 := by unfold j_3; rw [e2, t_rn_fl hf]
  have e4 : j_4 S lm s = t_fl s s.1 := by unfold j_4; rw [e3, t_nd_fl hf]
  have e5 : j_5 S lm s = t_fl s s.1 := by unfold j_5; rw [e4, t_rn_fl hf]
  have e6 : j_6 S lm s = t_fl s s.1 := by unfold j_6; rw [e5, t_nd_fl hf]
  have e7 : j_7 S lm s = t_fl s s.1 := by unfold j_7; rw [e6, t_rn_fl hf]
  have e8 : j_8 S lm s = t_fl s s.1 := by unfold j_8; rw [e7, t_nd_fl hf]
  have e9 : j_9 S lm s = t_fl s s.1 := by unfold j_9; rw [e8, t_rn_fl hf]
  unfold j_e
  rw [e9, if_neg (fun z => hf z.1)]
end JAR
/-- a DEBT, behind its d -/
def d_1 (S : Int → Int) (lm : Int) (s : a_R) : a_R := t_rn S lm 0 5 1 s
def d_2 (S : Int → Int) (lm : Int) (s : a_R) : a_R := t_nd S lm 62 (d_1 S lm s)
def d_3 (S : Int → Int) (lm : Int) (s : a_R) : a_R := t_rn S lm 0 5 1 (d_2 S lm s)
def d_a (S : Int → Int) (lm : Int) (s : a_R) : Int := (t_nm S lm 1 s).1
def d_b (S : Int → Int) (lm : Int) (s : a_R) : Int := (t_nm S lm 1 (d_2 S lm s)).1
def d_4 (S : Int → Int) (lm : Int) (s : a_R) : a_R := if d_a S lm s = d_b S lm s then t_fl (d_3 S lm s) ((d_3 S lm s).1 - 1) else d_3 S lm s
def d_5 (S : Int → Int) (lm : Int) (s : a_R) : a_R := t_nd S lm 42 (d_4 S lm s)
def d_6 (S : Int → Int) (lm : Int) (s : a_R) : a_R := t_rn S lm 0 999 3 (d_5 S lm s)
def d_v (S : Int → Int) (lm : Int) (s : a_R) : Int := (t_nm S lm 3 (d_5 S lm s)).1
section DEBT
variable {S : Int → Int} {lm : Int} {s : a_R}
theorem d_ok1 (h : t_ok lm s) : t_ok lm (d_1 S lm s) := t_rn_ok h
theorem d_ok2 (h : t_ok lm s) : t_ok lm (d_2 S lm s) := (d_ok1 h).nd
theorem d_ok3 (h : t_ok lm s) : t_ok lm (d_3 S lm s) := t_rn_ok (d_ok2 h)
theorem d_ok4 (h : t_ok lm s) : t_ok lm (d_4 S lm s) := by
  have o := d_ok3 (S := S) h
  unfold d_4
  split
  · exact o.fl (by have := o.1; omega) (by have := o.2.1; have := o.2.2.1; omega)
  · exact o
theorem d_ok5 (h : t_ok lm s) : t_ok lm (d_5 S lm s) := (d_ok4 h).nd
theorem d_ok6 (h : t_ok lm s) : t_ok lm (d_6 S lm s) := t_rn_ok (d_ok5 h)
theorem d_p (h : t_ok lm s) (hf : (d_6 S lm s).2 = -1) : (0 ≤ d_a S lm s ∧ d_a S lm s ≤ 5) ∧ (0 ≤ d_b S lm s ∧ d_b S lm s ≤ 5) ∧ d_a S lm s ≠ d_b S lm s ∧ (0 ≤ d_v S lm s ∧ d_v S lm s ≤ 999) ∧ s.1 < (d_6 S lm s).1 := by
  obtain ⟨a6, b6, c6, g6, -⟩ := t_rn_p (d_ok5 h) hf
  obtain ⟨a5, e5⟩ := t_nd_p (d_ok4 h) a6.1
  have f5 : (d_5 S lm s).1 = (d_4 S lm s).1 + 1 := by unfold d_5; rw [e5]
  have o3 := d_ok3 (S := S) h
  have k : d_a S lm s ≠ d_b S lm s ∧ d_4 S lm s = d_3 S lm s := by
    have z := a5.1
    unfold d_4 at z ⊢
    by_cases c : d_a S lm s = d_b S lm s
    · rw [if_pos c] at z
      exfalso
      by_cases q : (d_3 S lm s).2 = -1
      · rw [t_fl_ok q] at z
        have := (t_rn_p (d_ok2 h) q).2.2.2.1
        have this : (d_2 S lm s).1 < (d_3 S lm s).1 := this
        have := (d_ok2 (S := S) h).1
        have z : (d_3 S lm s).1 - 1 = -1 := z
        omega
      · rw [t_fl_fl q] at z; exact q z
    · rw [if_neg c]; exact ⟨c, rfl⟩
  have z3 : (d_3 S lm s).2 = -1 := by rw [← k.2]; exact a5.1
  obtain ⟨a3, b3, c3, g3, -⟩ := t_rn_p (d_ok2 h) z3
  obtain ⟨a2, e2⟩ := t_nd_p (d_ok1 h) a3.1
  have f2 : (d_2 S lm s).1 = (d_1 S lm s).1 + 1 := by unfold d_2; rw [e2]
  obtain ⟨a1, b1, c1, g1, -⟩ := t_rn_p h a2.1
  have g6 : (d_5 S lm s).1 < (d_6 S lm s).1 := g6
  have g3 : (d_2 S lm s).1 < (d_3 S lm s).1 := g3
  have g1 : s.1 < (d_1 S lm s).1 := g1
  rw [k.2] at f5
  exact ⟨⟨b1, c1⟩, ⟨b3, c3⟩, k.1, ⟨b6, c6⟩, by omega⟩
end DEBT
/-- the town as it is told: 0 HOLDS, 1 LEVEL, 2 HOLE, 3 OWNER, 4 HEIGHT, 5 BELOW, 6 DEBTS, 7: how many JARS -/
def t_put (S : Int → Int) (lm : Int) (s : a_R) (G : qm) : qm := fun c i => if c = 7 then G 7 0 + 1 else if i = G 7 0 ∧ 0 ≤ c ∧ c ≤ 5 then (if c = 0 then j_v1 S lm s else if c = 1 then j_v2 S lm s else if c = 2 then j_v3 S lm s else if c = 3 then j_v4 S lm s else if c = 4 then j_v5 S lm s else j_v6 S lm s) else G c i
def t_line (S : Int → Int) (lm : Int) (u : qm × a_R) : qm × a_R :=
  if t_is S lm u.2 100 then (if (d_6 S lm (u.2.1 + 1, u.2.2)).2 = -1 then q_up u.1 6 (6 * d_a S lm (u.2.1 + 1, u.2.2) + d_b S lm (u.2.1 + 1, u.2.2)) (d_v S lm (u.2.1 + 1, u.2.2)) else u.1, d_6 S lm (u.2.1 + 1, u.2.2))
  else if u.1 7 0 < 9 then (if (j_e S lm (u.1 4) (u.1 7 0) u.2).2 = -1 then t_put S lm u.2 u.1 else u.1, j_e S lm (u.1 4) (u.1 7 0) u.2)
  else (u.1, t_fl u.2 u.2.1)
def t_tw (S : Int → Int) (lm : Int) : Nat → Int → qm × a_R → Int × qm × a_R
  | 0, n, u => (n, u)
  | f + 1, n, u => if t_is S lm (t_line S lm u).2 59 then t_tw S lm f (n + 1) ((t_line S lm u).1, ((t_line S lm u).2.1 + 1, (t_line S lm u).2.2)) else (n + 1, t_line S lm u)
theorem t_line_ok {S : Int → Int} {lm : Int} {u : qm × a_R} (h : t_ok lm u.2) : t_ok lm (t_line S lm u).2 := by
  unfold t_line
  split
  · rename_i z
    exact d_ok6 (h.nx (S := S) z.2.1)
  · split
    · exact j_eo h
    · exact h.fl (by have := h.1; omega) (by have := h.2.1; have := h.2.2.1; omega)
theorem t_line_p {S : Int → Int} {lm : Int} {u : qm × a_R} (h : t_ok lm u.2) (hf : (t_line S lm u).2.2 = -1) : u.2.2 = -1 ∧ u.2.1 < (t_line S lm u).2.1 := by
  unfold t_line at hf ⊢
  by_cases z : t_is S lm u.2 100
  · rw [if_pos z] at hf ⊢
    have := (d_p (h.nx (S := S) z.2.1) hf).2.2.2.2
    have this : u.2.1 + 1 < (d_6 S lm (u.2.1 + 1, u.2.2)).1 := this
    exact ⟨z.1, by show u.2.1 < (d_6 S lm (u.2.1 + 1, u.2.2)).1; omega⟩
  · rw [if_neg z] at hf ⊢
    by_cases y : u.1 7 0 < 9
    · rw [if_pos y] at hf ⊢
      have := j_p h hf
      exact ⟨this.2.2.2.2.2.2.2.1, this.2.2.2.2.2.2.1⟩
    · rw [if_neg y] at hf
      exfalso
      have hf : (t_fl u.2 u.2.1).2 = -1 := hf
      by_cases q : u.2.2 = -1
      · rw [t_fl_ok q] at hf; have := h.1; have hf : u.2.1 = -1 := hf; omega
      · rw [t_fl_fl q] at hf; exact q hf
/-- the new town is as it must be -/
def t_GV (n0 : Int) (G : qm) : Prop := 0 ≤ n0 ∧ n0 ≤ G 7 0 ∧ G 7 0 ≤ 9 ∧ (∀ j, n0 ≤ j → j < G 7 0 → (1 ≤ G 0 j ∧ G 0 j ≤ 60) ∧ (0 ≤ G 1 j ∧ G 1 j ≤ G 0 j) ∧ (0 ≤ G 2 j ∧ G 2 j ≤ 9) ∧ (0 ≤ G 3 j ∧ G 3 j ≤ 5) ∧ (0 ≤ G 4 j ∧ G 4 j ≤ 9) ∧ (G 5 j = -1 ∨ (0 ≤ G 5 j ∧ G 5 j < j ∧ G 4 (G 5 j) < G 4 j))) ∧ (∀ d, 0 ≤ d → d < 36 → 0 ≤ G 6 d ∧ G 6 d ≤ 999) ∧ (∀ a, 0 ≤ a → a < 6 → G 6 (7 * a) = 0)
theorem t_put_o {S : Int → Int} {lm : Int} {s : a_R} {G : qm} {c i : Int} (h : c ≠ 7) (hi : i ≠ G 7 0) : t_put S lm s G c i = G c i := by unfold t_put; rw [if_neg h, if_neg (fun z => hi z.1)]
theorem t_put_6 {S : Int → Int} {lm : Int} {s : a_R} {G : qm} {i : Int} : t_put S lm s G 6 i = G 6 i := by unfold t_put; rw [if_neg (by decide), if_neg (fun z => by omega)]
theorem t_put_s {S : Int → Int} {lm : Int} {s : a_R} {G : qm} : t_put S lm s G 7 0 = G 7 0 + 1 ∧ t_put S lm s G 0 (G 7 0) = j_v1 S lm s ∧ t_put S lm s G 1 (G 7 0) = j_v2 S lm s ∧ t_put S lm s G 2 (G 7 0) = j_v3 S lm s ∧ t_put S lm s G 3 (G 7 0) = j_v4 S lm s ∧ t_put S lm s G 4 (G 7 0) = j_v5 S lm s ∧ t_put S lm s G 5 (G 7 0) = j_v6 S lm s := by
  unfold t_put
  refine ⟨rfl, ?_, ?_, ?_, ?_, ?_, ?_⟩ <;> simp
theorem t_GV.line {S : Int → Int} {lm n0 : Int} {u : qm × a_R} (h : t_GV n0 u.1) (ok : t_ok lm u.2) : t_GV n0 (t_line S lm u).1 := by
  unfold t_line
  by_cases z : t_is S lm u.2 100
  · rw [if_pos z]
    by_cases y : (d_6 S lm (u.2.1 + 1, u.2.2)).2 = -1
    · obtain ⟨p1, p2, p3, p4, -⟩ := d_p (ok.nx (S := S) z.2.1) y
      obtain ⟨g0, g1, g2, g3, g4, g5⟩ := h
      have e7 : q_up u.1 6 (6 * d_a S lm (u.2.1 + 1, u.2.2) + d_b S lm (u.2.1 + 1, u.2.2)) (d_v S lm (u.2.1 + 1, u.2.2)) 7 0 = u.1 7 0 := q_up_c (by decide)
      show t_GV n0 (if (d_6 S lm (u.2.1 + 1, u.2.2)).2 = -1 then _ else _)
      rw [if_pos y]
      refine ⟨g0, by rw [e7]; exact g1, by rw [e7]; exact g2, fun j j0 j1 => ?_, fun d d0 d1 => ?_, fun a a0 a1 => ?_⟩
      · rw [e7] at j1
        rw [q_up_c (by decide), q_up_c (by decide), q_up_c (by decide), q_up_c (by decide), q_up_c (by decide), q_up_c (by decide), q_up_c (by decide)]
        exact g3 j j0 j1
      · by_cases e : d = 6 * d_a S lm (u.2.1 + 1, u.2.2) + d_b S lm (u.2.1 + 1, u.2.2)
        · rw [e, q_up_s]; exact p4
        · rw [q_up_i e]; exact g4 d d0 d1
      · rw [q_up_i (by omega)]; exact g5 a a0 a1
    · show t_GV n0 (if (d_6 S lm (u.2.1 + 1, u.2.2)).2 = -1 then _ else _)
      rw [if_neg y]; exact h
  · rw [if_neg z]
    by_cases y : u.1 7 0 < 9
    · rw [if_pos y]
      show t_GV n0 (if (j_e S lm (u.1 4) (u.1 7 0) u.2).2 = -1 then _ else _)
      by_cases x : (j_e S lm (u.1 4) (u.1 7 0) u.2).2 = -1
      · rw [if_pos x]
        obtain ⟨p1, p2, p3, p4, p5, p6, -⟩ := j_p ok x
        obtain ⟨g0, g1, g2, g3, g4, g5⟩ := h
        obtain ⟨s7, s0, s1, s2, s3, s4, s5⟩ := t_put_s (S := S) (lm := lm) (s := u.2) (G := u.1)
        refine ⟨g0, by omega, by omega, fun j j0 j1 => ?_, fun d d0 d1 => by rw [t_put_6]; exact g4 d d0 d1, fun a a0 a1 => by rw [t_put_6]; exact g5 a a0 a1⟩
        by_cases e : j = u.1 7 0
        · rw [e, s0, s1, s2, s3, s4, s5]
          refine ⟨p1, p2, p3, p4, p5, ?_⟩
          rcases p6 with p6 | p6
          · exact Or.inl p6
          · rw [t_put_o (by decide) (by omega)]; exact Or.inr p6
        · rw [t_put_o (by decide) e, t_put_o (by decide) e, t_put_o (by decide) e, t_put_o (by decide) e, t_put_o (by decide) e, t_put_o (by decide) e]
          have q := g3 j j0 (by omega)
          refine ⟨q.1, q.2.1, q.2.2.1, q.2.2.2.1, q.2.2.2.2.1, ?_⟩
          rcases q.2.2.2.2.2 with q6 | q6
          · exact Or.inl q6
          · rw [t_put_o (by decide) (by omega)]; exact Or.inr q6
      · rw [if_neg x]; exact h
    · rw [if_neg y]; exact h
