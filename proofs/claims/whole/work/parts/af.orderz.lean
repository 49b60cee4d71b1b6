/-! ===== the class's order() ===== -/
theorem g_s_le {f : Int → Int} : ∀ (d i : Nat), (∀ k : Int, 0 ≤ k → k < ((i + d : Nat) : Int) → 0 ≤ f k) → g_s f i ≤ g_s f (i + d)
  | 0, i, _ => Int.le_refl _
  | d + 1, i, h => by
    have a := g_s_le d i (fun k a b => h k a (by omega))
    have c := h ((i + d : Nat) : Int) (by omega) (by omega)
    show g_s f i ≤ g_s f (i + d) + f ((i + d : Nat) : Int)
    omega
theorem o_sum {G : qm} (g : o_GV G 61) : G 7 0 ≤ 20 ∧ ∀ k : Nat, (k : Int) ≤ G 7 0 → 0 ≤ g_s (o_be G) k ∧ g_s (o_be G) k ≤ 1488 := by
  obtain ⟨g1, g2, g3, K1, K2, g4, g5⟩ := g
  have nn : ∀ k : Int, 0 ≤ k → k < G 7 0 → 0 ≤ o_be G k := fun k k0 k1 => by
    have := (g3 k k0 k1).2.2.2
    unfold o_be; split <;> omega
  refine ⟨by omega, fun k hk => ⟨?_, ?_⟩⟩
  · have := g_s_le (f := o_be G) k 0 (fun q a b => nn q a (by omega))
    rw [Nat.zero_add] at this
    exact this
  · have := g_s_le (f := o_be G) ((G 7 0).toNat - k) k (fun q a b => nn q a (by omega))
    rw [show k + ((G 7 0).toNat - k) = (G 7 0).toNat by omega] at this
    omega
abbrev x_odC (c i : Int) : Prop := x_orC c i ∨ (c = 145 ∧ i = 1)
abbrev x_oaC (c i : Int) : Prop := x_odC c i ∨ x_oC c i
def o_fin (n : Nat) (T : a_T) (C : List Int) (G : qm) (A : a_W) (P : a_P) : Int × a_W × a_P := o_run n T C G (G 7 0).toNat 0 A P
def o_cpost (n : Nat) (T : a_T) (C : List Int) (L : Int) (O : qm × a_R) (A : a_W) (P : a_P) (m : qm) : Int → qm → Prop := fun r m' => m' 145 1 = 0 ∧ (t_end L 60 O.2 ≠ -1 → r = -1 - t_end L 60 O.2 ∧ q_fx x_odC m m') ∧ (t_end L 60 O.2 = -1 → r = (o_fin n T C O.1 A P).1 ∧ c_W m' 5 n (o_fin n T C O.1 A P).2.1 ∧ c_P m' n (o_fin n T C O.1 A P).2.2 ∧ m' 0 16 = 2 ∧ m' 169 0 = (o_fin n T C O.1 A P).2.1.1.2.2 - A.1.2.2 ∧ m' 169 1 = if (o_fin n T C O.1 A P).1 < O.1 7 0 then 1 else 0) ∧ q_fx x_oaC m m'
theorem cl_order {b B : Int} {m : qm} {n : Nat} {T : a_T} {A : a_W} {P : a_P} {C : List Int} (cT : c_T m n T) (cW : c_W m 5 n A) (cP : c_P m n P) (t : a_TV n T) (v : a_V B n T.1 A) (pv : a_PV B n T.1 P) (hB : B ≤ 990000) (hC : l_cC m C) (x : i_X m) :
    q_Ev yX11_order cX11_order 4 (some .int) 7 0 0 [(2, 0)] (q_sh0, q_rb b, m) (qK (q_rb b) (o_cpost n T C (m 188 14) (o_all m) A P m)) := by
  have lo0 := v.2.2.2.2.2.2.1
  have lo1 := v.2.2.2.2.2.2.2.1
  have be1 := v.2.2.2.2.2.1
  refine q_enter (by decide +kernel) (by simp) (Nat.le_of_ble_eq_true rfl) ?_
  have done : ∀ (k : Int) (A' : a_W) (P' : a_P) (fl : Int) (m3 : qm), (k, A', P') = o_fin n T C (o_all m).1 A P → t_end (m 188 14) 60 (o_all m).2 = -1 → fl = (if k < (o_all m).1 7 0 then 1 else 0) → m3 145 1 = 0 → c_W m3 5 n A' → c_P m3 n P' → q_fx x_oaC m m3 → m3 0 16 = 0 → o_cpost n T C (m 188 14) (o_all m) A P m k (q_up (q_up (q_up (q_up m3 169 (m3 0 16) (A'.1.2.2 - A.1.2.2)) 0 16 (m3 0 16 + 1)) 169 (m3 0 16 + 1) fl) 0 16 (m3 0 16 + 1 + 1)) := by
    intro k A' P' fl m3 hR te hfl h1 w p F h0
    have F4 : q_fx (fun c i => (c = 0 ∧ i = 16) ∨ c = 169) m3 (q_up (q_up (q_up (q_up m3 169 (m3 0 16) (A'.1.2.2 - A.1.2.2)) 0 16 (m3 0 16 + 1)) 169 (m3 0 16 + 1) fl) 0 16 (m3 0 16 + 1 + 1)) := (((q_fx.rf.up (Or.inr rfl)).up (Or.inl ⟨rfl, rfl⟩)).up (Or.inr rfl)).up (Or.inl ⟨rfl, rfl⟩)
    refine ⟨(F4 145 1 (by omega)).trans h1, fun y => absurd te y, fun _ => ?_, F.tr (F4.mono (by intro c i; unfold x_oaC x_oC; omega))⟩
    rw [← hR]
    refine ⟨rfl, w.fr F4 (by unfold w_z; omega), p.fr F4 (by unfold x_Cr; omega), ?_, ?_, ?_⟩
    · rw [q_up_s, h0]; decide
    · rw [q_up_c (by decide), h0, q_up_i (by decide), q_up_c (by decide), q_up_s]
    · rw [q_up_c (by decide), h0]; show q_up _ 169 (0 + 1) fl 169 1 = _; rw [show (0 : Int) + 1 = 1 by decide, q_up_s]; exact hfl
  have go : ∀ (G : qm) (v1 : Int), G = (o_all m).1 → o_GV G 61 → t_end (m 188 14) 60 (o_all m).2 = -1 → ∀ (d k : Nat) (m' : qm) (A' : a_W) (P' : a_P), (k : Int) + d = G 7 0 → m' 145 1 = 0 → c_T m' n T → c_W m' 5 n A' → c_P m' n P' → a_V (B + g_s (o_be G) k) n T.1 A' → a_PV (B + g_s (o_be G) k) n T.1 P' → l_cC m' C → c_O m' G → m' 154 4 = G 7 0 → q_fx x_oaC m m' → o_run n T C G d k A' P' = o_fin n T C G A P → q_At yX11_order cX11_order 4 (some .int) 7 0 0 (qK (q_rb b) (o_cpost n T C (m 188 14) (o_all m) A P m)) 36 [(2, 0), (0, v1), (0, A.1.2.2), (0, (k : Int))] [] (q_sh0, q_rb b, m') := by
    intro G v1 hG gv te d
    obtain ⟨s20, sm⟩ := o_sum gv
    induction d with
    | zero =>
      intro k m' A' P' hk h1 cT' cW' cP' v' pv' hC' co hn F he
      have hs := sm k (by omega)
      have lo0' := v'.2.2.2.2.2.2.1
      have lo1' := v'.2.2.2.2.2.2.2.1
      have be1' := v'.2.2.2.2.2.1
      have F0 : q_fx (fun c i => c = 0 ∧ i = 16) m' (q_up m' 0 16 0) := q_fx.rf.up ⟨rfl, rfl⟩
      have W0 := cW'.fr F0 (by unfold w_z; omega)
      refine bkX11_order_36 (P8 := fun _ _ => True) (P11 := fun _ _ _ _ => True) (fun _ => sp_lostW q_st5 W0 v' (by omega)) ?_ ?_ ?_ ?_ ?_ (fun z => absurd z (by omega)) (fun z => absurd z (by omega)) (fun z => absurd z (by omega)) (fun z => absurd z (by omega)) (fun z => absurd z (by omega)) (fun z => absurd z (by omega)) (fun z => absurd z (by omega)) (fun z => absurd z (by omega)) (fun z => absurd z (by omega))
      · rintro _ r3 m3 ⟨rfl, rfl⟩ _
        exact ⟨q_in_of (by omega) (by omega), by rw [q_up_s]; decide⟩
      · rintro _ r3 m3 ⟨rfl, rfl⟩ _ _
        rw [q_up_s]; decide
      · rintro z r3 m3 ⟨rfl, rfl⟩ _ z2
        exact done k A' P' 0 _ (by rw [← hG]; exact he) te (by rw [if_neg (by rw [← hG]; omega)]) ((q_up_c (by decide)).trans h1) W0 (cP'.fr F0 (by unfold x_Cr; omega)) (F.tr (F0.mono (by intro c i; unfold x_oaC x_oC; omega))) q_up_s
      · rintro z r3 m3 ⟨rfl, rfl⟩ _ _
        rw [q_up_s]; decide
      · rintro z r3 m3 ⟨rfl, rfl⟩ _ z2
        rw [q_up_c (by decide)] at z2
        omega
    | succ d ih =>
      intro k m' A' P' hk h1 cT' cW' cP' v' pv' hC' co hn F he
      have hs := sm k (by omega)
      have hs2 := sm (k + 1) (by omega)
      have kv := gv.2.2.1 k (by omega) (by omega)
      have vd := o_dV (C := C) t v' kv
      have es : B + g_s (o_be G) k + o_be G k = B + g_s (o_be G) (k + 1) := by show _ = B + (g_s (o_be G) k + o_be G k); omega
      rw [es] at vd
      have pd := (o_dPV (n := n) (T := T) (C := C) (G := G) (k := k) ⟨cP'.2.1, cP'.2.2.1⟩ v' pv').mo (show B + g_s (o_be G) k ≤ B + g_s (o_be G) (k + 1) by
        have : g_s (o_be G) (k + 1) = g_s (o_be G) k + o_be G k := rfl
        have := kv.2.2.2
        have : 0 ≤ o_be G k := by unfold o_be; split <;> omega
        omega)
      simp only [o_run] at he
      refine bkX11_order_36 (P3 := fun _ _ => True) (P11 := fun _ m8 r m11 => m11 = q_up m8 0 16 0 ∧ r = (o_dA n T C G k A').1.2.2) (fun z => absurd z (by omega)) (fun z => absurd z (by omega)) (fun z => absurd z (by omega)) (fun z => absurd z (by omega)) (fun z => absurd z (by omega)) (fun z => absurd z (by omega)) (fun _ => cl_doStep cT' cW' cP' t v' pv' (by omega) hC' co (by omega) kv) ?_ ?_ ?_ ?_ ?_ ?_ (fun _ _ _ _ _ _ => q_in_of (by omega) (by omega)) ?_
      · rintro _ r8 m8 ⟨e8, w8, p8, f8⟩ _ z
        exact sp_lostW q_st5 (w8.fr (X := fun c i => c = 0 ∧ i = 16) (q_fx.rf.up ⟨rfl, rfl⟩) (by unfold w_z; omega)) vd (by omega)
      · rintro _ r8 m8 - _ z r11 m11 ⟨rfl, rfl⟩ _
        have a1 := vd.2.2.2.2.2.2.1
        have a2 := vd.2.2.2.2.2.2.2.1
        have a3 := vd.2.2.2.2.2.1
        exact ⟨q_in_of (by omega) (by omega), by rw [q_up_s]; decide⟩
      · rintro _ r8 m8 - _ z r11 m11 ⟨rfl, rfl⟩ _ _
        rw [q_up_s]; decide
      · rintro _ r8 m8 ⟨e8, w8, p8, f8⟩ _ z r11 m11 ⟨rfl, rfl⟩ _ z2
        rw [q_up_c (by decide), f8 154 4 (by unfold x_oC x_St x_Cr; omega)] at z2
        omega
      · rintro _ r8 m8 - _ z r11 m11 ⟨rfl, rfl⟩ _ _
        rw [q_up_s]; decide
      · rintro _ r8 m8 ⟨e8, w8, p8, f8⟩ _ z r11 m11 ⟨rfl, rfl⟩ _ z2
        have F0 : q_fx (fun c i => c = 0 ∧ i = 16) m8 (q_up m8 0 16 0) := q_fx.rf.up ⟨rfl, rfl⟩
        rw [if_pos (e8.symm.trans z)] at he
        exact done k _ _ 1 _ (by rw [← hG]; exact he) te (by rw [if_pos (by rw [← hG]; omega)]) (by rw [q_up_c (by decide), f8 145 1 (by unfold x_oC x_St x_Cr; omega)]; exact h1) (w8.fr F0 (by unfold w_z; omega)) (p8.fr F0 (by unfold x_Cr; omega)) ((F.tr (f8.mono (fun c i z => Or.inr z))).tr (F0.mono (by intro c i; unfold x_oaC x_oC; omega))) q_up_s
      · rintro _ r8 m8 ⟨e8, w8, p8, f8⟩ _ z
        rw [if_neg (fun y => z (e8.trans y))] at he
        exact ih (k + 1) m8 _ _ (by omega) (by rw [f8 145 1 (by unfold x_oC x_St x_Cr; omega)]; exact h1) (cT'.fr f8 (by unfold x_oC x_St x_Cr; omega)) w8 p8 vd pd (hC'.fr f8 (by unfold x_oC x_St x_Cr; omega)) (co.fr f8 (by intro c i; unfold x_oC x_St x_Cr; omega)) ((f8 154 4 (by unfold x_oC x_St x_Cr; omega)).trans hn) (F.tr (f8.mono (fun c i z => Or.inr z))) he
  refine bkX11_order_0 (P3 := fun _ m1 r m3 => m3 = q_up m1 145 1 0 ∧ r = A.1.2.2) (sp_readSC x) ?_ ?_ ?_
  · rintro r1 m1 ⟨e1, h1, ok, f1⟩ _ z
    exact sp_lostW q_st5 ((cW.fr f1 (by unfold w_z x_orC; omega)).fr (X := fun c i => c = 145 ∧ i = 1) (q_fx.rf.up ⟨rfl, rfl⟩) (by unfold w_z; omega)) v (by omega)
  · rintro r1 m1 ⟨e1, h1, ok, f1⟩ _ z r3 m3 ⟨rfl, rfl⟩ _
    have nn := t_end_nn ok (by decide : (0 : Int) ≤ 60)
    have te : t_end (m 188 14) 60 (o_all m).2 = -1 ∧ (o_all m).2.2 = -1 := by
      rcases nn with q | q
      · exact q
      · exfalso; rw [if_neg (by omega)] at e1; omega
    obtain ⟨a1, a2, a3⟩ := h1 te.2
    have F0 : q_fx (fun c i => c = 145 ∧ i = 1) m1 (q_up m1 145 1 0) := q_fx.rf.up ⟨rfl, rfl⟩
    have g1 := a3.1
    have := go (o_all m).1 r1 rfl a3 te.1 ((o_all m).1 7 0).toNat 0 (q_up m1 145 1 0) A P (by omega) q_up_s ((cT.fr f1 (by unfold x_orC; omega)).fr F0 (by omega)) ((cW.fr f1 (by unfold w_z x_orC; omega)).fr F0 (by unfold w_z; omega)) ((cP.fr f1 (by unfold x_Cr x_orC; omega)).fr F0 (by unfold x_Cr; omega)) (by rw [show g_s (o_be (o_all m).1) 0 = 0 from rfl, Int.add_zero]; exact v) (by rw [show g_s (o_be (o_all m).1) 0 = 0 from rfl, Int.add_zero]; exact pv) ((hC.fr f1 (by unfold x_orC; omega)).fr F0 (by omega)) (a2.fr F0 (by omega)) ((q_up_c (by decide)).trans a1) ((f1.mono (fun c i z => Or.inl (Or.inl z))).tr (F0.mono (fun c i z => Or.inl (Or.inr z)))) rfl
    exact this
  · rintro r1 m1 ⟨e1, h1, ok, f1⟩ _ z
    have F : q_fx x_odC m (q_up m1 145 1 0) := (f1.mono (fun c i z => Or.inl z)).up (Or.inr ⟨rfl, rfl⟩)
    have te : t_end (m 188 14) 60 (o_all m).2 ≠ -1 := fun y => by rw [if_pos y] at e1; omega
    refine ⟨q_up_s, fun _ => ⟨by rw [e1, if_neg te], F⟩, fun y => absurd y te, F.mono (fun c i z => Or.inl z)⟩
