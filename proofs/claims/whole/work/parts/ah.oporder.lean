/-! ===== order() joined ===== -/
theorem o_dP_r {n : Nat} {T : a_T} {C : List Int} {G : qm} {k : Int} {A : a_W} {P : a_P} (h : 0 ≤ P.1 ∧ P.1 ≤ 12) : 0 ≤ (o_dP n T C G k A P).1 ∧ (o_dP n T C G k A P).1 ≤ 12 := by
  have r : 0 ≤ (a_rem A P).1 ∧ (a_rem A P).1 ≤ 12 := by show 0 ≤ min 12 (P.1 + 1) ∧ min 12 (P.1 + 1) ≤ 12; omega
  unfold o_dP a_pourP
  repeat' split
  all_goals first | exact h | exact r
theorem o_run_V {B : Int} {n : Nat} {T : a_T} {C : List Int} {G : qm} (t : a_TV n T) (gv : o_GV G 61) : ∀ (d k : Nat) (A : a_W) (P : a_P), (k : Int) + d = G 7 0 → a_V (B + g_s (o_be G) k) n T.1 A → a_PV (B + g_s (o_be G) k) n T.1 P → (0 ≤ P.1 ∧ P.1 ≤ 12) → a_V (B + 1488) n T.1 (o_run n T C G d k A P).2.1 ∧ a_PV (B + 1488) n T.1 (o_run n T C G d k A P).2.2 := by
  obtain ⟨s20, sm⟩ := o_sum gv
  intro d
  induction d with
  | zero =>
    intro k A P hk v pv hP
    have := sm k (by omega)
    exact ⟨v.mo (by omega), pv.mo (by omega)⟩
  | succ d ih =>
    intro k A P hk v pv hP
    have hs2 := sm (k + 1) (by omega)
    have kv := gv.2.2.1 k (by omega) (by omega)
    have vd := o_dV (C := C) t v kv
    have e1 : g_s (o_be G) (k + 1) = g_s (o_be G) k + o_be G k := rfl
    have es : B + g_s (o_be G) k + o_be G k = B + g_s (o_be G) (k + 1) := by omega
    rw [es] at vd
    have pd := (o_dPV (n := n) (T := T) (C := C) (G := G) (k := k) hP v pv).mo (show B + g_s (o_be G) k ≤ B + g_s (o_be G) (k + 1) by
      have := kv.2.2.2
      have : 0 ≤ o_be G k := by unfold o_be; split <;> omega
      omega)
    simp only [o_run]
    split
    · exact ⟨vd.mo (by omega), pd.mo (by omega)⟩
    · exact ih (k + 1) _ _ (by omega) vd pd (o_dP_r hP)
theorem o_tw_V {S : Int → Int} {lm : Int} (h60 : lm ≤ 60) : ∀ (f : Nat) (u : qm × a_R), lm - u.2.1 < f → t_ok lm u.2 → o_GV u.1 u.2.1 → t_ok lm (o_tw S lm f u).2 ∧ ((o_tw S lm f u).2.2 = -1 → o_GV (o_tw S lm f u).1 61) := by
  intro f
  induction f with
  | zero => intro u hf ok gv; have := ok.2.1; omega
  | succ f ih =>
    intro u hf ok gv
    simp only [o_tw]
    have okl := o_ln_ok (S := S) ok
    split
    · rename_i z
      have lp := (o_ln_p (S := S) ok z.1).2
      exact ih _ (by show lm - ((o_ln S lm u).2.1 + 1) < f; omega) (okl.nx (S := S) z.2.1) (gv.ln ok z.1)
    · refine ⟨okl, fun y => ?_⟩
      have G := gv.ln (S := S) ok y
      have kk := okl.2.1
      obtain ⟨g1, g2, g3, K1, K2, g4, g5⟩ := G
      exact ⟨g1, by omega, g3, K1, K2, g4, by omega⟩
theorem o_all_V {m : qm} (x : i_X m) : t_ok (min (m 188 14) 60) (o_all m).2 ∧ ((o_all m).2.2 = -1 → o_GV (o_all m).1 61) := by
  obtain ⟨x1, x2, x3, x4⟩ := x
  have ok : t_ok (min (m 188 14) 60) ((0, -1) : a_R) := ⟨by decide, by show (0 : Int) ≤ min (m 188 14) 60; omega, by omega, by decide, by decide⟩
  unfold o_all
  split
  · obtain ⟨a1, a2, a3, a4⟩ := o_G0_V
    exact ⟨ok, fun _ => ⟨a1, by show 3 * (0 : Int) ≤ 61; decide, a3, 0, 0, by decide, by decide⟩⟩
  · exact o_tw_V (by omega) 100 (o_G0, (0, -1)) (by show min (m 188 14) 60 - 0 < 100; omega) ok o_G0_V
theorem op_order {c k : Nat} {b : Int} {m : qm} (I : i_I (l_LW c) k m) (hk : k ≤ 600) :
    q_Ev yX11_order cX11_order 4 (some .int) 7 0 0 [(2, 0)] (q_sh0, q_rb b, m) (qK (q_rb b) (fun r m1 => q_Ev yX12_order cX12_order 6 (some .int) 74 0 0 [(2, 188)] (q_sh0, q_rb b, m1) (i_O (l_LW c) (k + 1) r))) := by
  have I2 := I
  obtain ⟨n, t, p, a, x, r, s, u, kk, l⟩ := I2
  have hb : (1500 * (k : Int)) ≤ 1500 * ((k + 1 : Nat) : Int) := by omega
  obtain ⟨T1, T2, T3⟩ := a_T_of t p
  obtain ⟨W1, W2, W3⟩ := a_N_of a
  obtain ⟨P1, P2, P3⟩ := a_U_of u
  obtain ⟨C, C1, C2⟩ := l.1
  -- what the text tells, once more
  have oall : t_ok (min (m 188 14) 60) (o_all m).2 ∧ ((o_all m).2.2 = -1 → o_GV (o_all m).1 61) := o_all_V x
  refine (cl_order T1 W1 P1 T3 W3 P3 (by omega) C1 x).post ?_
  rintro r1 m1 ⟨e1, hb1, hg1, f1⟩
  have eR : ∀ c i, 188 ≤ c → m1 c i = m c i := fun c i z => f1 c i (by unfold x_oaC x_odC x_orC x_oC x_St x_Cr; omega)
  have e14 : m1 188 14 = m 188 14 := eR _ _ (by decide)
  have eS : t_S m1 198 = t_S m 198 := by funext i; unfold t_S; rw [eR 198 i (by decide)]
  have eA : o_all m1 = o_all m := by unfold o_all; rw [eS, e14]
  refine i_O_ofE ((rf_order (T2.fr f1 (by unfold x_oaC x_odC x_orC x_oC x_St x_Cr; omega)) (W2.fr f1 (by unfold x_oaC x_odC x_orC x_oC x_St x_Cr; omega)) (P2.fr f1 (by unfold x_Mr x_oaC x_odC x_orC x_oC x_St x_Cr; omega)) T3 W3 P3 (by omega) (C2.fr f1 (by unfold x_oaC x_odC x_orC x_oC x_St x_Cr; omega)) (by rw [e14]; exact ⟨x.2.1, x.2.2.1⟩) (by rw [eA, e14]; exact oall.1) (by rw [eA]; exact oall.2)).postE ?_)
  rintro r2 m2 ⟨g14, gb, gg, f2⟩
  rw [e14, eA] at gb gg
  have F : q_fx (fun c i => x_oaC c i ∨ x_oaM c i) m m2 := (f1.mono (fun c i z => Or.inl z)).tr (f2.mono (fun c i z => Or.inr z))
  have e145 : m2 145 1 = 0 := (f2 145 1 (by unfold x_oaM x_orM x_oM x_Go x_Mr x_lf; omega)).trans e1
  have X2 : i_X m2 := ⟨by omega, by omega, by omega, fun i i0 i1 => by omega⟩
  by_cases te : t_end (m 188 14) 60 (o_all m).2 = -1
  · obtain ⟨a1, a2, a3, a4, a5, a6⟩ := hg1 te
    obtain ⟨d1, d2, d3, d4, d5, d6⟩ := gg te
    refine ⟨d1.trans a1.symm, ?_⟩
    have fi : (o_all m).2.2 = -1 := by
      rcases t_end_nn oall.1 (by decide : (0 : Int) ≤ 60) with q | q
      · exact q.2
      · omega
    have gv := oall.2 fi
    have g0 := gv.1
    obtain ⟨v1, v2⟩ := o_run_V (B := 1500 * k) (C := C) T3 gv ((o_all m).1 7 0).toNat 0 (a_of m) (a_Pof m) (by omega) (by rw [show g_s (o_be (o_all m).1) 0 = 0 from rfl, Int.add_zero]; exact W3) (by rw [show g_s (o_be (o_all m).1) 0 = 0 from rfl, Int.add_zero]; exact P3) ⟨P1.2.1, P1.2.2.1⟩
    have ec : ∀ c i, c < 188 → m2 c i = m1 c i := fun c i z => f2 c i (by unfold x_oaM x_orM x_oM x_Go x_Mr x_lf; omega)
    have e189 : f_en n (m 189) (m2 189) := fun j _ _ => (F 189 j (by unfold x_oaC x_odC x_orC x_oC x_St x_Cr x_oaM x_orM x_oM x_Go x_Mr x_lf; omega)).symm
    have R2 : i_R m2 := by
      refine ⟨by rw [ec 0 16 (by decide), a4, d4], by omega, by omega, fun i i0 i1 => ?_⟩
      rw [ec 169 i (by decide)]
      have : i = 0 ∨ i = 1 := by omega
      rcases this with rfl | rfl
      · rw [a5, d5]
      · rw [a6, d6]
    refine ⟨n, t.fr F (by intro c i; unfold x_T x_oaC x_odC x_orC x_oC x_St x_Cr x_oaM x_orM x_oM x_Go x_Mr x_lf; omega), p.fr F (by intro c i; unfold x_P x_oaC x_odC x_orC x_oC x_St x_Cr x_oaM x_orM x_oM x_Go x_Mr x_lf; omega), a_N_to (a2.fr f2 (by unfold w_z x_oaM x_orM x_oM x_Go x_Mr x_lf; omega)) d2 (v1.mo (by omega)) e189, X2, R2, s.fr F (by intro c i; unfold x_S x_oaC x_odC x_orC x_oC x_St x_Cr x_oaM x_orM x_oM x_Go x_Mr x_lf; omega), a_U_to (a3.fr f2 (by unfold x_Cr x_oaM x_orM x_oM x_Go x_Mr x_lf; omega)) d3 (v2.mo (by omega)) e189, (kk.fr F (by intro c i; unfold x_K x_oaC x_odC x_orC x_oC x_St x_Cr x_oaM x_orM x_oM x_Go x_Mr x_lf; omega)).mo hb, l_LW_f c _ _ _ l F (by intro c i; unfold x_L x_oaC x_odC x_orC x_oC x_St x_Cr x_oaM x_orM x_oM x_Go x_Mr x_lf; omega)⟩
  · obtain ⟨a1, a2⟩ := hb1 te
    obtain ⟨d1, d2⟩ := gb te
    refine ⟨d1.trans a1.symm, ?_⟩
    have F3 : q_fx (fun c i => x_odC c i ∨ x_orM c i) m m2 := (a2.mono (fun c i z => Or.inl z)).tr (d2.mono (fun c i z => Or.inr z))
    exact ⟨n, t.fr F3 (by intro c i; unfold x_T x_odC x_orC x_orM; omega), p.fr F3 (by intro c i; unfold x_P x_odC x_orC x_orM; omega), (a.fr F3 (by intro c i; unfold x_N x_odC x_orC x_orM; omega)).mo hb, X2, r.fr F3 (by intro c i; unfold x_R x_odC x_orC x_orM; omega), s.fr F3 (by intro c i; unfold x_S x_odC x_orC x_orM; omega), (u.fr F3 (by intro c i; unfold x_U x_odC x_orC x_orM; omega)).mo hb, (kk.fr F3 (by intro c i; unfold x_K x_odC x_orC x_orM; omega)).mo hb, l_LW_f c _ _ _ l F3 (by intro c i; unfold x_L x_odC x_orC x_orM; omega)⟩
