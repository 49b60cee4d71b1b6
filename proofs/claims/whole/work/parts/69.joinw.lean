/-! ===== joining calls that change the water ===== -/
abbrev x_B (c i : Int) : Prop := x_T c i ∨ x_P c i ∨ x_X c i ∨ x_S c i ∨ x_K c i ∨ x_L c i
theorem i_R_of {m : qm} {l : List Int} (hl : l.length ≤ 10) (h1 : i_rc m m (some l)) (h2 : i_rr m m (some l)) : i_R m := by
  obtain ⟨a1, a2⟩ := h1
  obtain ⟨b1, b2⟩ := h2
  refine ⟨by omega, by omega, by omega, fun i i0 i1 => ?_⟩
  have hi : i = (i.toNat : Int) := by omega
  rw [hi, a2 _ (by omega), b2 _ (by omega)]
theorem i_I.wat {LW : qm → Prop} (hL : i_Lf LW) {k n : Nat} {m m1 m2 : qm} {A' : a_W} {P' : a_P} {Xc Xr : Int → Int → Prop} (t : i_T n m) (p : i_P n m) (x : i_X m) (s : i_S n m) (kk : i_K (1500 * k) n m) (l : LW m)
    (f1 : q_fx Xc m m1) (f2 : q_fx Xr m1 m2) (hc : ∀ c i, x_B c i → ¬ Xc c i) (hr : ∀ c i, x_B c i → ¬ Xr c i) (hr2 : ∀ c i, c < 188 → ¬ Xr c i) (cW : c_W m1 5 n A') (rW : r_W m2 n A') (v : a_V (1500 * ((k + 1 : Nat) : Int)) n (m 189) A') (cP : c_P m1 n P') (rP : r_P m2 n P') (pv : a_PV (1500 * ((k + 1 : Nat) : Int)) n (m 189) P') (hR : i_R m2) : i_I LW (k + 1) m2 := by
  have hb : (1500 * (k : Int)) ≤ 1500 * ((k + 1 : Nat) : Int) := by omega
  have F : q_fx (fun c i => Xc c i ∨ Xr c i) m m2 := (f1.mono (fun c i z => Or.inl z)).tr (f2.mono (fun c i z => Or.inr z))
  have hd : ∀ c i, x_B c i → ¬ (Xc c i ∨ Xr c i) := fun c i z y => y.elim (hc c i z) (hr c i z)
  have e189 : f_en n (m 189) (m2 189) := fun j _ _ => (F 189 j (hd _ _ (by simp [x_B, x_T]))).symm
  exact ⟨n, t.fr F (fun c i z => hd c i (Or.inl z)), p.fr F (fun c i z => hd c i (Or.inr (Or.inl z))), a_N_to (cW.fr f2 (fun c i z => hr2 c i (by unfold w_z at z; omega))) rW v e189, x.fr F (fun c i z => hd c i (Or.inr (Or.inr (Or.inl z)))), hR, s.fr F (fun c i z => hd c i (Or.inr (Or.inr (Or.inr (Or.inl z))))), a_U_to (cP.fr f2 (fun c i z => hr2 c i (by unfold x_Cr at z; omega))) rP pv e189, (kk.fr F (fun c i z => hd c i (Or.inr (Or.inr (Or.inr (Or.inr (Or.inl z))))))).mo hb, hL _ _ _ l F (fun c i z => hd c i (Or.inr (Or.inr (Or.inr (Or.inr (Or.inr z))))))⟩
theorem a_PV.mo {B B' : Int} {n : Nat} {c : Int → Int} {P : a_P} (h : a_PV B n c P) (hb : B ≤ B') : a_PV B' n c P := fun r a b => (h r a b).mo hb
theorem x_bC_B : ∀ c i, x_B c i → ¬ x_bC c i := by intro c i; unfold x_B x_T x_P x_X x_S x_K x_L x_bC x_St x_Cr; omega
theorem x_bM_B : ∀ c i, x_B c i → ¬ x_bM c i := by intro c i; unfold x_B x_T x_P x_X x_S x_K x_L x_bM x_Go x_Mr; omega
theorem x_bM_c : ∀ c i, c < 188 → ¬ x_bM c i := by intro c i; unfold x_bM x_Go x_Mr; omega
theorem op_bells {LW : qm → Prop} (hL : i_Lf LW) {k : Nat} {b : Int} {m : qm} (I : i_I LW k m) (hk : k ≤ 600) (w : Int) :
    q_Ev yX11_bells cX11_bells 4 (some .int) 5 0 0 [(2, 0), (0, w)] (q_sh0, q_rb b, m) (qK (q_rb b) (fun r m1 => q_Ev yX12_bells cX12_bells 5 (some .int) 3 0 0 [(2, 188), (0, w)] (q_sh0, q_rb b, m1) (i_O LW (k + 1) r))) := by
  have I2 := I
  obtain ⟨n, t, p, a, x, r, s, u, kk, l⟩ := I2
  obtain ⟨T1, T2, T3⟩ := a_T_of t p
  obtain ⟨W1, W2, W3⟩ := a_N_of a
  obtain ⟨P1, P2, P3⟩ := a_U_of u
  by_cases hw : 0 ≤ w ∧ w ≤ 200
  · obtain ⟨w', rfl⟩ : ∃ w' : Nat, w = w' := ⟨w.toNat, by omega⟩
    refine (cl_bells T1 W1 P1 T3 W3 P3 (by omega) w' (by omega)).post ?_
    rintro r1 m1 ⟨rfl, c1, c2, c3, c4⟩
    refine i_O_of (b := b) ((rf_bells (T2.fr c4 (by unfold x_bC x_St x_Cr; omega)) (W2.fr c4 (by unfold x_bC x_St x_Cr; omega)) (P2.fr c4 (by unfold x_Mr x_bC x_St x_Cr; omega)) T3 W3 P3 (by omega) w' (by omega)).post ?_)
    rintro r2 m2 ⟨rfl, d1, d2, d3, d4⟩
    refine ⟨rfl, i_I.wat hL t p x s kk l c4 d4 x_bC_B x_bM_B x_bM_c c1 d1 ((W3.bells T3 w').mo (by omega)) c2 d2 ?_ (i_R_of (l := a_brow n (a_bells n (a_Tof m) (a_of m) w')) (by simp [a_brow]) ⟨(d4 0 16 (by decide)).trans c3.1, fun i hi => (d4 169 i (x_bM_c _ _ (by decide))).trans (c3.2 i hi)⟩ d3)⟩
    by_cases h0 : 0 < w'
    · rw [if_pos h0]; exact (a_PV.rem ⟨P1.2.1, P1.2.2.1⟩ W3 P3).mo (by omega)
    · rw [if_neg h0]; exact P3.mo (by omega)
  · refine q_enter (by decide +kernel) (by simp) (Nat.le_of_ble_eq_true rfl) ?_
    refine bkX11_bells_0 (P3 := fun _ _ => True) (P4 := fun _ _ => True) (P5 := fun _ _ _ _ => True) (fun z => absurd z hw) (fun z => absurd z hw) (fun z => absurd z hw) (fun z => absurd z hw) (fun z => absurd z hw) (fun _ => ?_)
    refine i_O_of (b := b) (q_enter (by decide +kernel) (by simp) (Nat.le_of_ble_eq_true rfl) ?_)
    exact bkX12_bells_0 (P3 := fun _ _ => True) (fun z => absurd z hw) (fun z => absurd z hw) (fun z => absurd z hw) (fun _ => ⟨rfl, I.no hL⟩)
