/-! ===== payoff() joined ===== -/
def b_f0 (m : qm) : Int → Int := fun i => if i < 9 then m 190 i else m 197 (i - 9)
theorem op_payoff {LW : qm → Prop} (hL : i_Lf LW) {k : Nat} {b : Int} {m : qm} (I : i_I LW k m) :
    q_Ev yX11_payoff cX11_payoff 4 (some .int) 6 0 0 [(2, 0)] (q_sh0, q_rb b, m) (qK (q_rb b) (fun r m1 => q_Ev yX12_payoff cX12_payoff 6 (some .int) 3 0 0 [(2, 188)] (q_sh0, q_rb b, m1) (i_O LW (k + 1) r))) := by
  have I2 := I
  obtain ⟨n, t, p, a, x, r, s, u, kk, l⟩ := I2
  have hb : (1500 * (k : Int)) ≤ 1500 * ((k + 1 : Nat) : Int) := by omega
  obtain ⟨T1, T2, T3⟩ := a_T_of t p
  obtain ⟨W1, W2, W3⟩ := a_N_of a
  have n9 := T3.1
  have fl : ∀ j : Int, j < n → b_f0 m j = m 190 j := fun j hj => by unfold b_f0; rw [if_pos (by omega)]
  have fd : ∀ d : Int, 0 ≤ d → b_f0 m (9 + d) = m 197 d := fun d hd => by unfold b_f0; rw [if_neg (by omega), show 9 + d - 9 = d by omega]
  have ok : b_ok n (a_Tof m) (b_f0 m) := by
    obtain ⟨v1, v2, v3, v4, -⟩ := W3
    refine ⟨fun j j0 j1 => ?_, fun d d0 d1 => ?_, fun o o0 o1 => ?_⟩
    · rw [fl j j1]; have := v1 j j0 j1; exact ⟨this.1, this.2.1⟩
    · rw [fd d d0]; exact v3 d d0 d1
    · rw [fd _ (by omega)]; exact v4 o o0 o1
  refine (cl_payoff T3 T1 (f := b_f0 m) (fun j j0 j1 => ?_) (fun d d0 d1 => ?_) ok).post ?_
  · rw [fl j j1]; exact (W1.1 j j0 j1).1.1
  · rw [fd d d0]; exact W1.2.1 d d0 d1
  rintro r1 m1 ⟨e1, hn1, hp1, f1⟩
  have eR : ∀ c i, 188 ≤ c → m1 c i = m c i := fun c i z => f1 c i (by unfold x_poC x_goC x_enC; omega)
  refine i_O_of ((rf_payoff T3 (T2.fr f1 (by unfold x_poC x_goC x_enC; omega)) (f := b_f0 m) (fun j j0 j1 => ?_) (fun d d0 d1 => ?_) ok).post ?_)
  · rw [fl j j1]; exact eR _ _ (by decide)
  · rw [fd d d0]; exact eR _ _ (by decide)
  rintro r2 m2 ⟨e2, hn2, hp2, f2⟩
  have er : r2 = r1 := by rw [e1, e2]
  refine ⟨er, ?_⟩
  have F : q_fx (fun c i => x_poC c i ∨ x_poR c i) m m2 := (f1.mono (fun c i z => Or.inl z)).tr (f2.mono (fun c i z => Or.inr z))
  have R2 : i_R m2 := by
    by_cases z : r1 < 0
    · exact r.fr (((hn1 z).mono (fun c i y => Or.inl y)).tr ((hn2 (by omega)).mono (fun c i y => Or.inr y)) : q_fx (fun c i => x_goC c i ∨ x_srR c i) m m2) (by intro c i; unfold x_R x_goC x_enC x_srR; omega)
    · obtain ⟨g1, g2⟩ := hp1 (by omega)
      obtain ⟨g3, g4⟩ := hp2 (by omega)
      have ec : ∀ c i, c < 188 → m2 c i = m1 c i := fun c i z => f2 c i (by unfold x_poR x_srR; omega)
      rw [er] at g3 g4
      refine ⟨by rw [ec 0 16 (by decide), g1, g3], by omega, by omega, fun i i0 i1 => ?_⟩
      rw [ec 169 i (by decide), g2 i i0 (by omega), g4 i i0 (by omega)]
  exact ⟨n, t.fr F (by intro c i; unfold x_T x_poC x_goC x_enC x_poR x_srR; omega), p.fr F (by intro c i; unfold x_P x_poC x_goC x_enC x_poR x_srR; omega), (a.fr F (by intro c i; unfold x_N x_poC x_goC x_enC x_poR x_srR; omega)).mo hb, x.fr F (by intro c i; unfold x_X x_poC x_goC x_enC x_poR x_srR; omega), R2, s.fr F (by intro c i; unfold x_S x_poC x_goC x_enC x_poR x_srR; omega), (u.fr F (by intro c i; unfold x_U x_poC x_goC x_enC x_poR x_srR; omega)).mo hb, (kk.fr F (by intro c i; unfold x_K x_poC x_goC x_enC x_poR x_srR; omega)).mo hb, hL _ _ _ l F (by intro c i; unfold x_L x_poC x_goC x_enC x_poR x_srR; omega)⟩
