/-! ===== AN ORDER as it is told ===== -/
def o_p1 (S : Int → Int) (lm : Int) (s : a_R) : a_R := t_rn S lm 0 9 1 s
def o_p2 (S : Int → Int) (lm : Int) (s : a_R) : a_R := t_nd S lm 62 (o_p1 S lm s)
def o_p3 (S : Int → Int) (lm : Int) (s : a_R) : a_R := t_rn S lm 0 9 1 (o_p2 S lm s)
def o_p4 (S : Int → Int) (lm : Int) (s : a_R) : a_R := t_nd S lm 42 (o_p3 S lm s)
def o_p5 (S : Int → Int) (lm : Int) (s : a_R) : a_R := t_rn S lm 0 99 2 (o_p4 S lm s)
def o_w2 (S : Int → Int) (lm : Int) (s : a_R) : a_R := t_nd S lm 42 (o_p1 S lm s)
def o_w3 (S : Int → Int) (lm : Int) (s : a_R) : a_R := t_rn S lm 0 99 2 (o_w2 S lm s)
def o_b1 (S : Int → Int) (lm : Int) (s : a_R) : a_R := t_rn S lm 0 99 2 s
abbrev o_ad (s : a_R) : a_R := (s.1 + 1, s.2)
abbrev o_ws (S : Int → Int) (lm : Int) (s : a_R) : Prop := t_is S lm s 119 ∨ t_is S lm s 115
def o_e (S : Int → Int) (lm : Int) (s : a_R) : a_R := if t_is S lm s 112 then o_p5 S lm (o_ad s) else if o_ws S lm s then o_w3 S lm (o_ad s) else if t_is S lm s 98 then o_b1 S lm (o_ad s) else t_fl s s.1
def o_va (S : Int → Int) (lm : Int) (s : a_R) : Int := (t_nm S lm 1 (o_ad s)).1
def o_vb (S : Int → Int) (lm : Int) (s : a_R) : Int := (t_nm S lm 1 (o_p2 S lm (o_ad s))).1
def o_vn (S : Int → Int) (lm : Int) (s : a_R) : Int := if t_is S lm s 112 then (t_nm S lm 2 (o_p4 S lm (o_ad s))).1 else if o_ws S lm s then (t_nm S lm 2 (o_w2 S lm (o_ad s))).1 else (t_nm S lm 2 (o_ad s)).1
section ORD
variable {S : Int → Int} {lm : Int} {s : a_R}
theorem t_nm2 (h : t_ok lm s) (hf : (t_nm S lm 2 s).2.2 = -1) : (t_nm S lm 2 s).1 ≤ 9 ∨ s.1 + 2 ≤ (t_nm S lm 2 s).2.1 := by
  have d := (t_nm_p h hf).1
  unfold t_nm
  rw [if_pos d]
  show (t_mr S lm 1 (S s.1 - 48) (s.1 + 1, s.2)).1 ≤ 9 ∨ _
  simp only [t_mr]
  split
  · right; show s.1 + 2 ≤ s.1 + 1 + 1; omega
  · left; have := d.2.2; show S s.1 - 48 ≤ 9; omega
theorem o_k1 (h : t_ok lm s) : t_ok lm (o_p1 S lm s) := t_rn_ok h
theorem o_k2 (h : t_ok lm s) : t_ok lm (o_p2 S lm s) := (o_k1 h).nd
theorem o_k3 (h : t_ok lm s) : t_ok lm (o_p3 S lm s) := t_rn_ok (o_k2 h)
theorem o_k4 (h : t_ok lm s) : t_ok lm (o_p4 S lm s) := (o_k3 h).nd
theorem o_k5 (h : t_ok lm s) : t_ok lm (o_p5 S lm s) := t_rn_ok (o_k4 h)
theorem o_kw2 (h : t_ok lm s) : t_ok lm (o_w2 S lm s) := (o_k1 h).nd
theorem o_kw3 (h : t_ok lm s) : t_ok lm (o_w3 S lm s) := t_rn_ok (o_kw2 h)
theorem o_kb1 (h : t_ok lm s) : t_ok lm (o_b1 S lm s) := t_rn_ok h
theorem o_eo (h : t_ok lm s) : t_ok lm (o_e S lm s) := by
  unfold o_e
  split
  · rename_i z; exact o_k5 (h.nx (S := S) z.2.1)
  · split
    · rename_i z; exact o_kw3 (by rcases z with z | z <;> exact h.nx (S := S) z.2.1)
    · split
      · rename_i z; exact o_kb1 (h.nx (S := S) z.2.1)
      · exact h.fl (by have := h.1; omega) (by have := h.2.1; have := h.2.2.1; omega)
/-- a step that can be told -/
theorem o_pp (h : t_ok lm s) (hf : (o_e S lm s).2 = -1) : s.2 = -1 ∧ s.1 < lm ∧ (S s.1 = 112 ∨ S s.1 = 119 ∨ S s.1 = 115 ∨ S s.1 = 98) ∧ (0 ≤ o_va S lm s ∧ o_va S lm s ≤ 9) ∧ (0 ≤ o_vb S lm s ∧ o_vb S lm s ≤ 9) ∧ (0 ≤ o_vn S lm s ∧ o_vn S lm s ≤ 99) ∧ s.1 + 2 ≤ (o_e S lm s).1 ∧ (S s.1 = 98 → o_vn S lm s ≤ 9 ∨ s.1 + 3 ≤ (o_e S lm s).1) := by
  have va := t_nm_v (S := S) (lm := lm) (k := 1) (s := o_ad s) (by decide)
  have vb := t_nm_v (S := S) (lm := lm) (k := 1) (s := o_p2 S lm (o_ad s)) (by decide)
  have va' : 0 ≤ o_va S lm s ∧ o_va S lm s ≤ 9 := ⟨va.1, by unfold o_va; omega⟩
  have vb' : 0 ≤ o_vb S lm s ∧ o_vb S lm s ≤ 9 := ⟨vb.1, by unfold o_vb; omega⟩
  unfold o_e at hf ⊢
  unfold o_vn
  by_cases z : t_is S lm s 112
  · rw [if_pos z] at hf ⊢
    rw [if_pos z]
    have ok := h.nx (S := S) z.2.1
    obtain ⟨a5, b5, c5, d5, -⟩ := t_rn_p (o_k4 ok) hf
    obtain ⟨a4, e4⟩ := t_nd_p (o_k3 ok) a5.1
    obtain ⟨a3, b3, c3, d3, -⟩ := t_rn_p (o_k2 ok) a4.1
    obtain ⟨a2, e2⟩ := t_nd_p (o_k1 ok) a3.1
    obtain ⟨a1, b1, c1, d1, -⟩ := t_rn_p ok a2.1
    have f4 : (o_p4 S lm (o_ad s)).1 = (o_p3 S lm (o_ad s)).1 + 1 := by unfold o_p4; rw [e4]
    have f2 : (o_p2 S lm (o_ad s)).1 = (o_p1 S lm (o_ad s)).1 + 1 := by unfold o_p2; rw [e2]
    have d5 : (o_p4 S lm (o_ad s)).1 < (o_p5 S lm (o_ad s)).1 := d5
    have d3 : (o_p2 S lm (o_ad s)).1 < (o_p3 S lm (o_ad s)).1 := d3
    have d1 : s.1 + 1 < (o_p1 S lm (o_ad s)).1 := d1
    exact ⟨z.1, z.2.1, Or.inl z.2.2, va', vb', ⟨b5, c5⟩, by omega, fun q => by have := z.2.2; omega⟩
  · rw [if_neg z] at hf ⊢
    rw [if_neg z]
    by_cases y : o_ws S lm s
    · rw [if_pos y] at hf ⊢
      rw [if_pos y]
      have y2 : s.2 = -1 ∧ s.1 < lm ∧ (S s.1 = 119 ∨ S s.1 = 115) := by rcases y with y | y <;> exact ⟨y.1, y.2.1, by have := y.2.2; omega⟩
      have ok : t_ok lm (o_ad s) := h.nx (S := S) y2.2.1
      obtain ⟨a3, b3, c3, d3, -⟩ := t_rn_p (o_kw2 ok) hf
      obtain ⟨a2, e2⟩ := t_nd_p (o_k1 ok) a3.1
      obtain ⟨a1, b1, c1, d1, -⟩ := t_rn_p ok a2.1
      have f2 : (o_w2 S lm (o_ad s)).1 = (o_p1 S lm (o_ad s)).1 + 1 := by unfold o_w2; rw [e2]
      have d3 : (o_w2 S lm (o_ad s)).1 < (o_w3 S lm (o_ad s)).1 := d3
      have d1 : s.1 + 1 < (o_p1 S lm (o_ad s)).1 := d1
      exact ⟨y2.1, y2.2.1, by omega, va', vb', ⟨b3, c3⟩, by omega, fun q => by omega⟩
    · rw [if_neg y] at hf ⊢
      rw [if_neg y]
      by_cases x : t_is S lm s 98
      · rw [if_pos x] at hf ⊢
        have ok := h.nx (S := S) x.2.1
        obtain ⟨a1, b1, c1, d1, e1⟩ := t_rn_p ok hf
        have d1 : s.1 + 1 < (o_b1 S lm (o_ad s)).1 := d1
        have e1 : o_b1 S lm (o_ad s) = (t_nm S lm 2 (o_ad s)).2 := e1
        have n2 := t_nm2 (S := S) ok (by show (t_nm S lm 2 (o_ad s)).2.2 = -1; rw [← e1]; exact hf)
        refine ⟨x.1, x.2.1, by have := x.2.2; omega, va', vb', ⟨b1, c1⟩, by omega, fun _ => ?_⟩
        rw [e1]
        rcases n2 with n2 | n2
        · exact Or.inl n2
        · right; have n2 : s.1 + 1 + 2 ≤ (t_nm S lm 2 (o_ad s)).2.1 := n2; omega
      · rw [if_neg x] at hf
        exfalso
        by_cases q : s.2 = -1
        · rw [t_fl_ok q] at hf; have := h.1; have hf : s.1 = -1 := hf; omega
        · rw [t_fl_fl q] at hf; exact q hf
end ORD
def o_put (S : Int → Int) (lm : Int) (s : a_R) (G : qm) : qm := fun c i => if c = 7 then G 7 0 + 1 else if i = G 7 0 ∧ 0 ≤ c ∧ c ≤ 3 then (if c = 0 then S s.1 else if c = 1 then o_va S lm s else if c = 2 then o_vb S lm s else o_vn S lm s) else G c i
theorem o_put_o {S : Int → Int} {lm : Int} {s : a_R} {G : qm} {c i : Int} (h : c ≠ 7) (hi : i ≠ G 7 0) : o_put S lm s G c i = G c i := by unfold o_put; rw [if_neg h, if_neg (fun z => hi z.1)]
theorem o_put_s {S : Int → Int} {lm : Int} {s : a_R} {G : qm} : o_put S lm s G 7 0 = G 7 0 + 1 ∧ o_put S lm s G 0 (G 7 0) = S s.1 ∧ o_put S lm s G 1 (G 7 0) = o_va S lm s ∧ o_put S lm s G 2 (G 7 0) = o_vb S lm s ∧ o_put S lm s G 3 (G 7 0) = o_vn S lm s := by
  unfold o_put
  refine ⟨rfl, ?_, ?_, ?_, ?_⟩ <;> simp
def o_ln (S : Int → Int) (lm : Int) (u : qm × a_R) : qm × a_R := (if (o_e S lm u.2).2 = -1 then o_put S lm u.2 u.1 else u.1, o_e S lm u.2)
def o_tw (S : Int → Int) (lm : Int) : Nat → qm × a_R → qm × a_R
  | 0, u => u
  | f + 1, u => if t_is S lm (o_ln S lm u).2 59 then o_tw S lm f ((o_ln S lm u).1, ((o_ln S lm u).2.1 + 1, (o_ln S lm u).2.2)) else o_ln S lm u
/-- bells told of a step -/
abbrev o_be (G : qm) (k : Int) : Int := if G 0 k = 98 then G 3 k else 0
def o_GV (G : qm) (z : Int) : Prop := 0 ≤ G 7 0 ∧ 3 * G 7 0 ≤ z ∧ (∀ k, 0 ≤ k → k < G 7 0 → (G 0 k = 112 ∨ G 0 k = 119 ∨ G 0 k = 115 ∨ G 0 k = 98) ∧ (0 ≤ G 1 k ∧ G 1 k ≤ 9) ∧ (0 ≤ G 2 k ∧ G 2 k ≤ 9) ∧ (0 ≤ G 3 k ∧ G 3 k ≤ 99)) ∧ ∃ K1 K2 : Nat, g_s (o_be G) (G 7 0).toNat ≤ 99 * K2 + 9 * K1 ∧ 4 * (K2 : Int) + 3 * K1 ≤ z
theorem o_GV.ln {S : Int → Int} {lm : Int} {u : qm × a_R} (h : o_GV u.1 u.2.1) (ok : t_ok lm u.2) (hf : (o_ln S lm u).2.2 = -1) : o_GV (o_ln S lm u).1 ((o_ln S lm u).2.1 + 1) := by
  have hf : (o_e S lm u.2).2 = -1 := hf
  obtain ⟨p1, p2, p3, p4, p5, p6, p7, p8⟩ := o_pp ok hf
  obtain ⟨g1, g2, g3, K1, K2, g4, g5⟩ := h
  obtain ⟨s7, s0, s1, s2, s3⟩ := o_put_s (S := S) (lm := lm) (s := u.2) (G := u.1)
  show o_GV (if (o_e S lm u.2).2 = -1 then o_put S lm u.2 u.1 else u.1) ((o_e S lm u.2).1 + 1)
  rw [if_pos hf]
  have es : g_s (o_be (o_put S lm u.2 u.1)) (u.1 7 0).toNat = g_s (o_be u.1) (u.1 7 0).toNat := g_s_en (fun k k0 k1 => by unfold o_be; rw [o_put_o (by decide) (by omega), o_put_o (by decide) (by omega)])
  have et : (o_put S lm u.2 u.1 7 0).toNat = (u.1 7 0).toNat + 1 := by rw [s7]; omega
  have en : g_s (o_be (o_put S lm u.2 u.1)) (o_put S lm u.2 u.1 7 0).toNat = g_s (o_be u.1) (u.1 7 0).toNat + (if S u.2.1 = 98 then o_vn S lm u.2 else 0) := by
    rw [et]
    show g_s (o_be (o_put S lm u.2 u.1)) (u.1 7 0).toNat + o_be (o_put S lm u.2 u.1) ((u.1 7 0).toNat : Int) = _
    rw [es, show (((u.1 7 0).toNat : Nat) : Int) = u.1 7 0 by omega]
    unfold o_be
    rw [s0, s3]
  refine ⟨by omega, by omega, fun k k0 k1 => ?_, ?_⟩
  · by_cases q : k = u.1 7 0
    · rw [q, s0, s1, s2, s3]; exact ⟨p3, p4, p5, p6⟩
    · rw [o_put_o (by decide) q, o_put_o (by decide) q, o_put_o (by decide) q, o_put_o (by decide) q]; exact g3 k k0 (by omega)
  · rw [en]
    by_cases q : S u.2.1 = 98
    · rw [if_pos q]
      rcases p8 q with p8 | p8
      · exact ⟨K1 + 1, K2, by omega, by omega⟩
      · exact ⟨K1, K2 + 1, by omega, by omega⟩
    · rw [if_neg q]
      exact ⟨K1, K2, by omega, by omega⟩
theorem o_ln_ok {S : Int → Int} {lm : Int} {u : qm × a_R} (h : t_ok lm u.2) : t_ok lm (o_ln S lm u).2 := o_eo h
theorem o_ln_p {S : Int → Int} {lm : Int} {u : qm × a_R} (h : t_ok lm u.2) (hf : (o_ln S lm u).2.2 = -1) : u.2.2 = -1 ∧ u.2.1 + 2 ≤ (o_ln S lm u).2.1 := ⟨(o_pp h hf).1, (o_pp h hf).2.2.2.2.2.2.1⟩
def o_G0 : qm := fun _ _ => 0
theorem o_G0_V : o_GV o_G0 0 := ⟨by decide, by decide, fun k k0 k1 => by have k1 : k < (0 : Int) := k1; omega, 0, 0, by decide, by decide⟩
def o_all (m : qm) : qm × a_R := if m 188 14 = 0 then (o_G0, (0, -1)) else o_tw (t_S m 198) (min (m 188 14) 60) 100 (o_G0, (0, -1))
