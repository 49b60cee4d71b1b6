/-! ===== the reference's order() ===== -/
abbrev x_orM (c i : Int) : Prop := (c = 188 ∧ (i = 14 ∨ i = 17 ∨ (19 ≤ i ∧ i ≤ 22))) ∨ c = 206
abbrev x_oaM (c i : Int) : Prop := x_orM c i ∨ x_oM c i
theorem r_O.fr {m m' G : qm} {X : Int → Int → Prop} (h : r_O m G) (hf : q_fx X m m') (hd : ∀ c i, c = 206 → ¬ X c i) : r_O m' G := by
  intro k k0 k1
  have e : ∀ i, m' 206 i = m 206 i := fun i => hf 206 i (hd _ _ rfl)
  rw [e, e, e, e]
  exact h k k0 k1
def o_rpost (n : Nat) (T : a_T) (C : List Int) (L : Int) (O : qm × a_R) (A : a_W) (P : a_P) (m : qm) : Int → qm → Prop := fun r m' => m' 188 14 = 0 ∧ (t_end L 60 O.2 ≠ -1 → r = -1 - t_end L 60 O.2 ∧ q_fx x_orM m m') ∧ (t_end L 60 O.2 = -1 → r = (o_fin n T C O.1 A P).1 ∧ r_W m' n (o_fin n T C O.1 A P).2.1 ∧ r_P m' n (o_fin n T C O.1 A P).2.2 ∧ m' 188 16 = 2 ∧ m' 199 0 = (o_fin n T C O.1 A P).2.1.1.2.2 - A.1.2.2 ∧ m' 199 1 = if (o_fin n T C O.1 A P).1 < O.1 7 0 then 1 else 0) ∧ q_fx x_oaM m m'
theorem rf_order {b B : Int} {m : qm} {n : Nat} {T : a_T} {A : a_W} {P : a_P} {C : List Int} (cT : r_T m n T) (cW : r_W m n A) (cP : r_P m n P) (t : a_TV n T) (v : a_V B n T.1 A) (pv : a_PV B n T.1 P) (hB : B ≤ 990000) (hC : l_cR m C) (x0 : 0 ≤ m 188 14 ∧ m 188 14 ≤ 80) (ok0 : t_ok (min (m 188 14) 60) (o_all m).2) (gv0 : (o_all m).2.2 = -1 → o_GV (o_all m).1 61) :
    q_Ev yX12_order cX12_order 6 (some .int) 74 0 0 [(2, 188)] (q_sh0, q_rb b, m) (qE (o_rpost n T C (m 188 14) (o_all m) A P m)) := by
  have lo0 := v.2.2.2.2.2.2.1
  have lo1 := v.2.2.2.2.2.2.2.1
  have be1 := v.2.2.2.2.2.1
  refine q_enter (by decide +kernel) (by simp) (Nat.le_of_ble_eq_true rfl) ?_
  -- telling the row
  have at299 : ∀ (b' k v1 v2 : Int) (A' : a_W) (P' : a_P) (m3 : qm), (k, A', P') = o_fin n T C (o_all m).1 A P → t_end (m 188 14) 60 (o_all m).2 = -1 → v1 = (o_all m).1 7 0 → m3 188 14 = 0 → r_W m3 n A' → r_P m3 n P' → q_fx x_oaM m m3 → q_in32 (A'.1.2.2 - A.1.2.2) → q_At yX12_order cX12_order 6 (some .int) 74 0 0 (qE (o_rpost n T C (m 188 14) (o_all m) A P m)) 299 [(2, 188), (0, v1), (0, v2), (0, A.1.2.2), (0, k), (4, 0)] [] (q_sh0, q_rb b', m3) := by
    intro b' k v1 v2 A' P' m3 hR te hv1 h14 w p F hin
    have e11 : m3 188 11 = A'.1.2.2 := w.1.2
    have fin : ∀ fl, fl = (if k < (o_all m).1 7 0 then 1 else 0) → o_rpost n T C (m 188 14) (o_all m) A P m k (q_up (q_up (q_up (q_up (q_up m3 188 16 0) 199 (0 : Int) (A'.1.2.2 - A.1.2.2)) 188 16 ((0 : Int) + 1)) 199 ((0 : Int) + 1) fl) 188 16 (((0 : Int) + 1) + 1)) := by
      intro fl hfl
      have F4 : q_fx (fun c i => (c = 188 ∧ i = 16) ∨ c = 199) m3 (q_up (q_up (q_up (q_up (q_up m3 188 16 0) 199 (0 : Int) (A'.1.2.2 - A.1.2.2)) 188 16 ((0 : Int) + 1)) 199 ((0 : Int) + 1) fl) 188 16 (((0 : Int) + 1) + 1)) := ((((q_fx.rf.up (Or.inl ⟨rfl, rfl⟩)).up (Or.inr rfl)).up (Or.inl ⟨rfl, rfl⟩)).up (Or.inr rfl)).up (Or.inl ⟨rfl, rfl⟩)
      refine ⟨(F4 188 14 (by omega)).trans h14, fun y => absurd te y, fun _ => ?_, F.tr (F4.mono (by intro c i; unfold x_oaM x_oM; omega))⟩
      rw [← hR]
      refine ⟨rfl, w.fr F4 (by omega), p.fr F4 (by unfold x_Mr; omega), ?_, ?_, ?_⟩
      · rw [q_up_s]; decide
      · rw [q_up_c (by decide), q_up_i (by decide), q_up_c (by decide), q_up_s]
      · rw [q_up_c (by decide)]; show q_up _ 199 (0 + 1) fl 199 1 = _; rw [show (0 : Int) + 1 = 1 by decide, q_up_s]; exact hfl
    refine bkX12_order_299 ⟨by rw [e11]; exact hin, by decide⟩ (fun _ => by decide) (fun z => ?_) (fun _ => by decide) (fun z => ?_)
    · rw [e11]; exact fin 0 (by rw [if_neg (by omega)])
    · rw [e11]; exact fin 1 (by rw [if_pos (by omega)])
  have go2 : ∀ (G : qm) (v2 : Int), G = (o_all m).1 → o_GV G 61 → t_end (m 188 14) 60 (o_all m).2 = -1 → ∀ (d k : Nat) (b' : Int) (m' : qm) (A' : a_W) (P' : a_P), (k : Int) + d = G 7 0 → m' 188 14 = 0 → r_T m' n T → r_W m' n A' → r_P m' n P' → a_V (B + g_s (o_be G) k) n T.1 A' → a_PV (B + g_s (o_be G) k) n T.1 P' → l_cR m' C → r_O m' G → q_fx x_oaM m m' → o_run n T C G d k A' P' = o_fin n T C G A P → q_At yX12_order cX12_order 6 (some .int) 74 0 0 (qE (o_rpost n T C (m 188 14) (o_all m) A P m)) 276 [(2, 188), (0, G 7 0), (0, v2), (0, A.1.2.2), (0, (k : Int)), (4, 0)] [] (q_sh0, q_rb b', m') := by
    intro G v2 hG gv te d
    obtain ⟨s20, sm⟩ := o_sum gv
    induction d with
    | zero =>
      intro k b' m' A' P' hk h14 cT' cW' cP' v' pv' hC' co F he
      have hs := sm k (by omega)
      have lo0' := v'.2.2.2.2.2.2.1
      have lo1' := v'.2.2.2.2.2.2.2.1
      have be1' := v'.2.2.2.2.2.1
      exact bkX12_order_276 (P2 := fun _ _ => True) (fun _ => at299 b' k _ v2 A' P' m' (by rw [← hG]; exact he) te (by rw [← hG]) h14 cW' cP' F (q_in_of (by omega) (by omega))) (fun z => absurd z (by omega)) (fun z => absurd z (by omega)) (fun z => absurd z (by omega)) (fun z => absurd z (by omega)) (fun z => absurd z (by omega))
    | succ d ih =>
      intro k b' m' A' P' hk h14 cT' cW' cP' v' pv' hC' co F he
      have hs := sm k (by omega)
      have hs2 := sm (k + 1) (by omega)
      have kv := gv.2.2.1 k (by omega) (by omega)
      have vd := o_dV (C := C) t v' kv
      have es : B + g_s (o_be G) k + o_be G k = B + g_s (o_be G) (k + 1) := by show _ = B + (g_s (o_be G) k + o_be G k); omega
      rw [es] at vd
      have pd := (o_dPV (n := n) (T := T) (C := C) (G := G) (k := k) ⟨cP'.2.1, cP'.2.2.1⟩ v' pv').mo (show B + g_s (o_be G) k ≤ B + g_s (o_be G) (k + 1) by
        have : g_s (o_be G) (k + 1) = g_s (o_be G) k + o_be G k := rfl
        have := kv.2.2.2
        have : 0 ≤ o_be G k := by unfold o_be; split <;> omega
        omega)
      simp only [o_run] at he
      refine bkX12_order_276 (fun z => absurd z (by omega)) (fun _ => q_in_of (by omega) (by omega)) (fun _ => rf_goStep cT' cW' cP' t v' pv' (by omega) hC' co (by omega) kv) ?_ (fun _ _ _ _ _ _ _ => q_in_of (by omega) (by omega)) ?_
      · rintro _ r2 b2 m2 ⟨e8, w8, p8, f8⟩ _ z
        rw [if_pos (e8.symm.trans z)] at he
        have a1 := vd.2.2.2.2.2.2.1
        have a2 := vd.2.2.2.2.2.2.2.1
        have a3 := vd.2.2.2.2.2.1
        exact at299 b2 k _ v2 _ _ m2 (by rw [← hG]; exact he) te (by rw [← hG]) (by rw [f8 188 14 (by unfold x_oM x_Go x_Mr x_lf; omega)]; exact h14) w8 p8 (F.tr (f8.mono (fun c i z => Or.inr z))) (q_in_of (by omega) (by omega))
      · rintro _ r2 b2 m2 ⟨e8, w8, p8, f8⟩ _ z
        rw [if_neg (fun y => z (e8.trans y))] at he
        exact ih (k + 1) b2 m2 _ _ (by omega) (by rw [f8 188 14 (by unfold x_oM x_Go x_Mr x_lf; omega)]; exact h14) (cT'.fr f8 (by unfold x_oM x_Go x_Mr x_lf; omega)) w8 p8 vd pd (hC'.fr f8 (by unfold x_oM x_Go x_Mr x_lf; omega)) (co.fr f8 (by intro c i; unfold x_oM x_Go x_Mr x_lf; omega)) (F.tr (f8.mono (fun c i z => Or.inr z))) he
  -- the end of the reading
  have at254 : ∀ (v1 v2 : Int) (m' : qm), m' 188 22 = t_end (m 188 14) 60 (o_all m).2 → m' 188 14 = 0 → q_fx x_orM m m' → (t_end (m 188 14) 60 (o_all m).2 = -1 ∨ 0 ≤ t_end (m 188 14) 60 (o_all m).2) → t_end (m 188 14) 60 (o_all m).2 ≤ 80 → (t_end (m 188 14) 60 (o_all m).2 = -1 → v1 = (o_all m).1 7 0 ∧ o_GV (o_all m).1 61 ∧ r_O m' (o_all m).1) →
      q_At yX12_order cX12_order 6 (some .int) 74 0 0 (qE (o_rpost n T C (m 188 14) (o_all m) A P m)) 254 [(2, 188), (0, v1), (0, v2), (4, 0), (4, 0), (4, 0)] [] (q_sh0, q_rb 198, m') := by
    intro v1 v2 m' h22 g14 F nn n80 hg
    refine bkX12_order_254 (fun z => ?_) (fun z => q_in_of (by omega) (by omega)) (fun z => ⟨g14, fun _ => ⟨by rw [h22], F⟩, fun y => absurd (h22.trans y) z, F.mono (fun c i z => Or.inl z)⟩)
    obtain ⟨rfl, gv, ro⟩ := hg (h22.symm.trans z)
    have W := cW.fr F (by unfold x_orM; omega)
    have e11 : m' 188 11 = A.1.2.2 := W.1.2
    rw [e11]
    have g1 := gv.1
    exact go2 _ v2 rfl gv (h22.symm.trans z) ((o_all m).1 7 0).toNat 0 198 m' A P (by omega) g14 (cT.fr F (by unfold x_orM; omega)) W (cP.fr F (by unfold x_Mr x_orM; omega)) (by rw [show g_s (o_be (o_all m).1) 0 = 0 from rfl, Int.add_zero]; exact v) (by rw [show g_s (o_be (o_all m).1) 0 = 0 from rfl, Int.add_zero]; exact pv) (hC.fr F (by unfold x_orM; omega)) ro (F.mono (fun c i z => Or.inl z)) rfl
  have at235 : ∀ (v1 v2 : Int) (m' : qm), r_R 198 m' (t_S m 198) (min (m 188 14) 60) (o_all m).2 → m' 188 19 = m 188 14 → m' 188 14 = 0 → q_fx x_orM m m' → ((o_all m).2.2 = -1 → v1 = (o_all m).1 7 0 ∧ o_GV (o_all m).1 61 ∧ r_O m' (o_all m).1) →
      q_At yX12_order cX12_order 6 (some .int) 74 0 0 (qE (o_rpost n T C (m 188 14) (o_all m) A P m)) 235 [(2, 188), (0, v1), (0, v2), (4, 0), (4, 0), (4, 0)] [] (q_sh0, q_rb 198, m') := by
    intro v1 v2 m' r g19 g14 F hg
    obtain ⟨k1, k2, k3, k4, k5⟩ := r.2.2.2.1
    have nn := t_end_nn r.2.2.2.1 (by decide : (0 : Int) ≤ 60)
    by_cases hf : (o_all m).2.2 = -1
    · have eat := r.2.2.1 hf
      refine bkX12_order_235 (P2 := fun _ m2 => r_R 198 m2 (t_S m 198) (min (m 188 14) 60) (t_fl (o_all m).2 (o_all m).2.1) ∧ q_fx (fun c i => c = 188 ∧ i = 22) m' m2) (fun z => ?_) (fun z => ?_) ?_
      · have te : t_end (m 188 14) 60 (o_all m).2 = -1 := t_end_no hf (by omega) (by omega)
        exact at254 v1 v2 m' (by rw [te, r.2.1]; exact hf) g14 F (Or.inl te) (by omega) (fun _ => hg hf)
      · rw [eat]; exact sp_faultM r (by omega) (by omega)
      · rintro z _ m2 ⟨r2, f2⟩ _
        have te : t_end (m 188 14) 60 (o_all m).2 = (o_all m).2.1 := by
          by_cases c : (o_all m).2.1 < min (m 188 14) 60
          · exact t_end_lt hf c
          · rw [t_end_lo hf c (by omega)]; omega
        refine at254 v1 v2 m2 ?_ ((f2 188 14 (by omega)).trans g14) (F.tr (f2.mono (by intro c i; unfold x_orM; omega))) (Or.inr (by omega)) (by omega) (fun y => by omega)
        rw [te, r2.2.1, t_fl_ok hf]
    · have te : t_end (m 188 14) 60 (o_all m).2 = (o_all m).2.2 := t_end_fl hf
      have r22 := r.2.1
      have fin := at254 v1 v2 m' (by rw [te]; exact r22) g14 F (Or.inr (by omega)) (by omega) (fun y => absurd (te.symm.trans y) hf)
      refine bkX12_order_235 (P2 := fun _ m2 => m2 = m') (fun z => fin) (fun z => sp_faultFl (by omega)) ?_
      rintro z _ m2 rfl _
      exact fin
  have xrM : ∀ c i, x_rM c i → x_orM c i := by intro c i; unfold x_rM x_orM; omega
  have go : ∀ (f : Nat) (u : qm × a_R) (m' : qm), min (m 188 14) 60 - u.2.1 < f → u.2.2 = -1 → r_R 198 m' (t_S m 198) (min (m 188 14) 60) u.2 → r_O m' u.1 → o_GV u.1 u.2.1 → m' 188 19 = m 188 14 → m' 188 14 = 0 → q_fx x_orM m m' → o_tw (t_S m 198) (min (m 188 14) 60) f u = o_all m →
      q_At yX12_order cX12_order 6 (some .int) 74 0 0 (qE (o_rpost n T C (m 188 14) (o_all m) A P m)) 39 [(2, 188), (0, u.1 7 0), (0, 1), (4, 0), (4, 0), (4, 0)] [] (q_sh0, q_rb 198, m') := by
    intro f
    induction f with
    | zero =>
      intro u m' hf uf r ro gv g19 g14 F he
      have := r.2.2.2.1.2.1
      omega
    | succ f ih =>
      intro u m' hf uf r ro gv g19 g14 F he
      have ok := r.2.2.2.1
      have okl := o_ln_ok (S := t_S m 198) ok
      have k1 := ok.1
      have k2 := ok.2.1
      have gn0 := gv.1
      have gn1 := gv.2.1
      simp only [o_tw] at he
      have ewr := r.2.1
      have eat := r.2.2.1 uf
      generalize hS : t_S m 198 = S at *
      generalize hlm : min (m 188 14) 60 = lm at *
      have lm60 : lm ≤ 60 := by omega
      have frS : ∀ {m1 : qm} {s1 : a_R} {i w : Int}, r_R 198 m1 S lm s1 → r_R 198 (q_up m1 206 i w) S lm s1 := fun {m1 s1 i w} r => r.fr (X := fun c' _ => c' = 206) (q_fx.rf.up rfl) (fun c' i y => by omega)
      have xk : ∀ c i, x_rM c i → (x_rM c i ∨ (c = 206 ∧ 4 * u.1 7 0 ≤ i ∧ i < 4 * u.1 7 0 + 4)) := fun c i z => Or.inl z
      -- the last thing of a step
      have at221 : ∀ (v2 v3 v4 v5 s2 : Int) (m2 : qm), r_R 198 m2 S lm (o_e S lm u.2) → q_fx (fun c i => x_rM c i ∨ (c = 206 ∧ 4 * u.1 7 0 ≤ i ∧ i < 4 * u.1 7 0 + 4)) m' m2 → ((o_e S lm u.2).2 = -1 → m2 206 (4 * u.1 7 0) = S u.2.1 ∧ (S u.2.1 = 98 → m2 206 (4 * u.1 7 0 + 1) = o_vn S lm u.2) ∧ (S u.2.1 ≠ 98 → m2 206 (4 * u.1 7 0 + 1) = o_va S lm u.2 ∧ s2 = o_vn S lm u.2) ∧ (S u.2.1 = 112 → m2 206 (4 * u.1 7 0 + 2) = o_vb S lm u.2)) →
          q_At yX12_order cX12_order 6 (some .int) 74 0 0 (qE (o_rpost n T C (m 188 14) (o_all m) A P m)) 221 [(2, 188), (0, u.1 7 0), (0, v2), (0, v3), (0, v4), (0, v5)] [(0, s2), (0, 4 * u.1 7 0 + 3), (2, 206)] (q_sh0, q_rb 198, m2) := by
        intro v2 v3 v4 v5 s2 m2 r2 f2 h2
        refine bkX12_order_221 ⟨by omega, q_in_of (by omega) (by omega)⟩ (sp_passesM (frS r2) (by decide)) ?_
        rintro r3 m3 ⟨g3, f3⟩ _
        have F3 : q_fx (fun c i => x_rM c i ∨ (c = 206 ∧ 4 * u.1 7 0 ≤ i ∧ i < 4 * u.1 7 0 + 4)) m' m3 := (f2.up (Or.inr ⟨rfl, by omega⟩)).tr (f3.mono xk)
        have FF : q_fx x_orM m m3 := F.tr (F3.mono (by intro c i; unfold x_rM x_orM; omega))
        have q19 : m3 188 19 = m 188 14 := (F3 188 19 (by unfold x_rM; omega)).trans g19
        have q14 : m3 188 14 = 0 := (F3 188 14 (by unfold x_rM; omega)).trans g14
        have told : (o_ln S lm u).2.2 = -1 → (o_ln S lm u).1 7 0 = u.1 7 0 + 1 ∧ r_O m3 (o_ln S lm u).1 := by
          intro y
          have y : (o_e S lm u.2).2 = -1 := y
          obtain ⟨p1, p2, p3, p4⟩ := h2 y
          obtain ⟨s7, s0, s1, s2', s3⟩ := o_put_s (S := S) (lm := lm) (s := u.2) (G := u.1)
          have eG : (o_ln S lm u).1 = o_put S lm u.2 u.1 := by
            show (if (o_e S lm u.2).2 = -1 then _ else _) = _
            rw [if_pos y]
          rw [eG]
          refine ⟨s7, fun k k0 k1 => ?_⟩
          by_cases q : k = u.1 7 0
          · rw [q, s0, s1, s2', s3, f3 206 _ (by unfold x_rM; omega), f3 206 _ (by unfold x_rM; omega), f3 206 _ (by unfold x_rM; omega), f3 206 _ (by unfold x_rM; omega), q_up_i (by omega), q_up_i (by omega), q_up_s, q_up_i (by omega)]
            exact ⟨p1, p2, p3, p4⟩
          · rw [o_put_o (by decide) q, o_put_o (by decide) q, o_put_o (by decide) q, o_put_o (by decide) q, F3 206 _ (by unfold x_rM; omega), F3 206 _ (by unfold x_rM; omega), F3 206 _ (by unfold x_rM; omega), F3 206 _ (by unfold x_rM; omega)]
            exact ro k k0 (by omega)
        rcases g3 with ⟨rfl, i3, c3⟩ | ⟨rfl, i3, c3⟩
        · rw [if_pos (show t_is S lm (o_ln S lm u).2 59 from i3)] at he
          obtain ⟨t1, t2⟩ := told i3.1
          have lp := (o_ln_p (S := S) ok i3.1).2
          have q := ih ((o_ln S lm u).1, ((o_ln S lm u).2.1 + 1, (o_ln S lm u).2.2)) m3 (by show lm - ((o_ln S lm u).2.1 + 1) < f; omega) i3.1 c3 t2 (gv.ln ok i3.1) q19 q14 FF he
          rw [show ((o_ln S lm u).1, ((o_ln S lm u).2.1 + 1, (o_ln S lm u).2.2)).1 7 0 = u.1 7 0 + 1 from t1] at q
          exact q
        · rw [if_neg (show ¬ t_is S lm (o_ln S lm u).2 59 from i3)] at he
          refine bkX12_order_39 (P3 := fun _ _ => True) (P8 := fun _ _ _ _ => True) (fun _ => ?_) (fun z => absurd rfl z) (fun z => absurd rfl z) (fun z => absurd rfl z) (fun z => absurd rfl z) (fun z => absurd rfl z) (fun z => absurd rfl z) (fun z => absurd rfl z) (fun z => absurd rfl z)
          refine at235 _ 0 m3 (by rw [← he]; exact c3) q19 q14 FF (fun y => ?_)
          have gg := gv0 y
          rw [← he] at y gg ⊢
          obtain ⟨t1, t2⟩ := told y
          exact ⟨t1.symm, gg, t2⟩
      -- storing
      have at161 : ∀ (v2 v3 v4 v5 : Int) (m2 : qm) (e1 : a_R), r_R 198 m2 S lm e1 → q_fx (fun c i => x_rM c i ∨ (c = 206 ∧ 4 * u.1 7 0 ≤ i ∧ i < 4 * u.1 7 0 + 4)) m' m2 → (v3 = 98 → e1 = o_e S lm u.2) → (v3 ≠ 98 → t_rn S lm 0 99 2 e1 = o_e S lm u.2) → ((o_e S lm u.2).2 = -1 → v3 = S u.2.1 ∧ (v3 = 98 → v4 = o_vn S lm u.2) ∧ (v3 ≠ 98 → v4 = o_va S lm u.2 ∧ (t_nm S lm 2 e1).1 = o_vn S lm u.2) ∧ (v3 = 112 → v5 = o_vb S lm u.2)) →
          q_At yX12_order cX12_order 6 (some .int) 74 0 0 (qE (o_rpost n T C (m 188 14) (o_all m) A P m)) 161 [(2, 188), (0, u.1 7 0), (0, v2), (0, v3), (0, v4), (0, v5)] [] (q_sh0, q_rb 198, m2) := by
        intro v2 v3 v4 v5 m2 e1 r2 f2 hb hn hv
        have F2 : q_fx (fun c i => x_rM c i ∨ (c = 206 ∧ 4 * u.1 7 0 ≤ i ∧ i < 4 * u.1 7 0 + 4)) m' (q_up (q_up (q_up m2 206 (4 * u.1 7 0) v3) 206 (4 * u.1 7 0 + 1) v4) 206 (4 * u.1 7 0 + 2) v5) := ((f2.up (Or.inr ⟨rfl, by omega⟩)).up (Or.inr ⟨rfl, by omega⟩)).up (Or.inr ⟨rfl, by omega⟩)
        have st : ∀ m3 s2, q_fx x_rM (q_up (q_up (q_up m2 206 (4 * u.1 7 0) v3) 206 (4 * u.1 7 0 + 1) v4) 206 (4 * u.1 7 0 + 2) v5) m3 → ((o_e S lm u.2).2 = -1 → v3 ≠ 98 → s2 = o_vn S lm u.2) → ((o_e S lm u.2).2 = -1 → m3 206 (4 * u.1 7 0) = S u.2.1 ∧ (S u.2.1 = 98 → m3 206 (4 * u.1 7 0 + 1) = o_vn S lm u.2) ∧ (S u.2.1 ≠ 98 → m3 206 (4 * u.1 7 0 + 1) = o_va S lm u.2 ∧ s2 = o_vn S lm u.2) ∧ (S u.2.1 = 112 → m3 206 (4 * u.1 7 0 + 2) = o_vb S lm u.2)) := by
          intro m3 s2 f3 hs2 y
          obtain ⟨a1, a2, a3, a4⟩ := hv y
          rw [f3 206 _ (by unfold x_rM; omega), f3 206 _ (by unfold x_rM; omega), f3 206 _ (by unfold x_rM; omega), q_up_i (by omega), q_up_i (by omega), q_up_s, q_up_i (by omega), q_up_s, q_up_s, ← a1]
          exact ⟨rfl, a2, fun q => ⟨(a3 q).1, hs2 y q⟩, a4⟩
        refine bkX12_order_161 ⟨q_in_of (by omega) (by omega), by omega, q_in_of (by omega) (by omega), by omega, q_in_of (by omega) (by omega), by omega, q_in_of (by omega) (by omega)⟩ (fun z => sp_numM 2 (by decide) (frS (frS (frS r2)))) ?_ (fun z => ?_)
        · rintro z r3 m3 ⟨c3, e3, f3⟩ _
          rw [hn z] at c3 e3
          exact at221 _ _ _ _ r3 m3 c3 (F2.tr (f3.mono xk)) (st m3 r3 f3 (fun y q => by rw [e3 y]; exact ((hv y).2.2.1 q).2))
        · have e1' := hb z
          exact at221 _ _ _ _ 0 _ (by rw [← e1']; exact frS (frS (frS r2))) F2 (st _ 0 q_fx.rf (fun _ q => absurd z q))
      -- from the first sign on: a1 is where the reading stands behind it
      have at87 : ∀ (v2 v3 : Int) (m2 : qm) (s2 a1 : a_R), r_R 198 m2 S lm s2 → m2 188 21 = u.2.1 → q_fx x_rM m' m2 → ((t_is S lm u.2 v3 ∧ (v3 = 112 ∨ v3 = 98 ∨ v3 = 119 ∨ v3 = 115) ∧ s2 = u.2 ∧ a1 = o_ad u.2) ∨ (¬ t_is S lm u.2 112 ∧ ¬ o_ws S lm u.2 ∧ ¬ t_is S lm u.2 98 ∧ v3 ≠ 112 ∧ v3 ≠ 98 ∧ s2 = t_fl u.2 u.2.1 ∧ a1 = t_fl u.2 u.2.1)) →
          q_At yX12_order cX12_order 6 (some .int) 74 0 0 (qE (o_rpost n T C (m 188 14) (o_all m) A P m)) 87 [(2, 188), (0, u.1 7 0), (0, v2), (0, v3), (4, 0), (4, 0)] [] (q_sh0, q_rb 198, m2) := by
        intro v2 v3 m2 s2 a1 r2 e21 f2 hc
        have fup : q_fx x_rM m2 (q_up m2 188 21 (m2 188 21 + 1)) := q_fx.rf.up (by unfold x_rM; omega)
        have ra : r_R 198 (q_up m2 188 21 (m2 188 21 + 1)) S lm a1 := by
          rcases hc with ⟨hi, hv, hs, ha⟩ | ⟨n1, n2, n3, n4, n5, hs, ha⟩
          · rw [hs] at r2
            rw [ha]; exact (r2.nx uf hi.2.1).1
          · have nf : (t_fl u.2 u.2.1).2 ≠ -1 := by rw [t_fl_ok uf]; show u.2.1 ≠ -1; omega
            rw [hs] at r2
            rw [ha]
            exact r2.set fup (by decide) (fun y => absurd y nf) ((q_up_i (by decide)).trans r2.2.1) r2.2.2.2.1
        have F2 : q_fx x_rM m' (q_up m2 188 21 (m2 188 21 + 1)) := f2.tr fup
        have oka : t_ok lm a1 := ra.2.2.2.1
        -- flawed from the first sign on
        have bad : ¬ t_is S lm u.2 112 → ¬ o_ws S lm u.2 → ¬ t_is S lm u.2 98 → o_e S lm u.2 = t_fl u.2 u.2.1 ∧ (o_e S lm u.2).2 ≠ -1 := fun n1 n2 n3 => by
          have e : o_e S lm u.2 = t_fl u.2 u.2.1 := by unfold o_e; rw [if_neg n1, if_neg n2, if_neg n3]
          exact ⟨e, by rw [e, t_fl_ok uf]; show u.2.1 ≠ -1; omega⟩
        have sig : ∀ c1 c2, t_is S lm u.2 c1 → t_is S lm u.2 c2 → c1 = c2 := fun c1 c2 h1 h2 => h1.2.2.symm.trans h2.2.2
        have at149 : ∀ (v4 v5 : Int) (m4 : qm) (e4 : a_R), v3 ≠ 98 → r_R 198 m4 S lm e4 → q_fx x_rM m' m4 → (v3 = 112 → e4 = o_p3 S lm a1) → (v3 ≠ 112 → e4 = o_p1 S lm a1) → ((o_e S lm u.2).2 = -1 → v4 = o_va S lm u.2 ∧ (v3 = 112 → v5 = o_vb S lm u.2)) → q_At yX12_order cX12_order 6 (some .int) 74 0 0 (qE (o_rpost n T C (m 188 14) (o_all m) A P m)) 149 [(2, 188), (0, u.1 7 0), (0, v2), (0, v3), (0, v4), (0, v5)] [] (q_sh0, q_rb 198, m4) := by
          intro v4 v5 m4 e4 n98 r4 f4 h112 hn112 hv
          refine bkX12_order_149 (fun z => absurd z n98) (fun _ => sp_needM r4 (by decide)) ?_
          rintro _ r5 m5 ⟨c5, f5⟩ _
          refine at161 v2 v3 v4 v5 m5 _ c5 ((f4.tr f5).mono xk) (fun z => absurd z n98) (fun _ => ?_) (fun y => ?_)
          · rcases hc with ⟨hi, hv', hs, ha⟩ | ⟨n1, n2, n3, n4, n5, hs, ha⟩
            · by_cases z : v3 = 112
              · rw [h112 z, ha]
                unfold o_e
                rw [if_pos (by rw [← z]; exact hi)]; rfl
              · rw [hn112 z, ha]
                have hw : o_ws S lm u.2 := by
                  rcases hv' with q | q | q | q
                  · exact absurd q z
                  · exact absurd q n98
                  · left; rw [← q]; exact hi
                  · right; rw [← q]; exact hi
                unfold o_e
                rw [if_neg (fun q => z (sig _ _ hi q)), if_pos hw]; rfl
            · obtain ⟨e, nf⟩ := bad n1 n2 n3
              rw [e] at nf ⊢
              rw [hn112 n4, ha]
              have e1 : o_p1 S lm (t_fl u.2 u.2.1) = t_fl u.2 u.2.1 := t_rn_fl nf
              rw [e1, t_nd_fl nf, t_rn_fl nf]
          · rcases hc with ⟨hi, hv', hs, ha⟩ | ⟨n1, n2, n3, n4, n5, hs, ha⟩
            · refine ⟨hi.2.2.symm, fun z => absurd z n98, fun _ => ⟨(hv y).1, ?_⟩, (hv y).2⟩
              by_cases z : v3 = 112
              · rw [h112 z, ha]
                unfold o_vn
                rw [if_pos (by rw [← z]; exact hi)]; rfl
              · rw [hn112 z, ha]
                have hw : o_ws S lm u.2 := by
                  rcases hv' with q | q | q | q
                  · exact absurd q z
                  · exact absurd q n98
                  · left; rw [← q]; exact hi
                  · right; rw [← q]; exact hi
                unfold o_vn
                rw [if_neg (fun q => z (sig _ _ hi q)), if_pos hw]; rfl
            · exact absurd y (bad n1 n2 n3).2
        refine bkX12_order_87 (q_in_of (by omega) (by omega)) (fun _ => sp_numM 1 (by decide) ra) ?_ (fun _ => sp_numM 2 (by decide) ra) ?_
        · rintro n98 r3 m3 ⟨c3, e3, f3⟩ _
          have c3 : r_R 198 m3 S lm (o_p1 S lm a1) := c3
          refine bkX12_order_122 (P2 := fun _ m4 => r_R 198 m4 S lm (o_p2 S lm a1) ∧ q_fx x_rM m' m4) (P3 := fun _ _ r m4 => r_R 198 m4 S lm (o_p3 S lm a1) ∧ ((o_p3 S lm a1).2 = -1 → r = (t_nm S lm 1 (o_p2 S lm a1)).1) ∧ q_fx x_rM m' m4) (fun z => ?_) (fun z => ?_) ?_ ?_
          · refine at149 r3 0 m3 _ n98 c3 (F2.tr f3) (fun y => absurd y z) (fun _ => rfl) (fun y => ⟨?_, fun q => absurd q z⟩)
            rcases hc with ⟨hi, hv', hs, ha⟩ | ⟨n1, n2, n3, n4, n5, hs, ha⟩
            · have hw : o_ws S lm u.2 := by
                rcases hv' with q | q | q | q
                · exact absurd q z
                · exact absurd q n98
                · left; rw [← q]; exact hi
                · right; rw [← q]; exact hi
              have eo : o_e S lm u.2 = o_w3 S lm (o_ad u.2) := by unfold o_e; rw [if_neg (fun q => z (sig _ _ hi q)), if_pos hw]
              rw [eo] at y
              rw [ha] at e3 oka
              rw [e3 (t_nd_s (o_k1 oka) (t_rn_s (o_kw2 oka) y))]; rfl
            · exact absurd y (bad n1 n2 n3).2
          · exact (sp_needM c3 (by decide)).post (fun _ _ q => ⟨q.1, (F2.tr f3).tr q.2⟩)
          · rintro z r4 m4 ⟨c4, f4⟩ _
            exact (sp_numM 1 (by decide) c4).post (fun _ _ q => ⟨q.1, q.2.1, f4.tr q.2.2⟩)
          · rintro z r4 m4 - _ r5 m5 ⟨c5, e5, f5⟩ _
            refine at149 r3 r5 m5 _ n98 c5 f5 (fun _ => rfl) (fun y => absurd z y) (fun y => ?_)
            rcases hc with ⟨hi, hv', hs, ha⟩ | ⟨n1, n2, n3, n4, n5, hs, ha⟩
            · have eo : o_e S lm u.2 = o_p5 S lm (o_ad u.2) := by unfold o_e; rw [if_pos (by rw [← z]; exact hi)]
              rw [eo] at y
              rw [ha] at e3 e5 oka
              have y3 := t_nd_s (o_k3 oka) (t_rn_s (o_k4 oka) y)
              have y1 := t_nd_s (o_k1 oka) (t_rn_s (o_k2 oka) y3)
              exact ⟨by rw [e3 y1]; rfl, fun _ => by rw [e5 y3]; rfl⟩
            · exact absurd y (bad n1 n2 n3).2
        · rintro z r3 m3 ⟨c3, e3, f3⟩ _
          have hi : t_is S lm u.2 98 ∧ a1 = o_ad u.2 := by
            rcases hc with ⟨hi, hv', hs, ha⟩ | ⟨n1, n2, n3, n4, n5, hs, ha⟩
            · exact ⟨by rw [← z]; exact hi, ha⟩
            · exact absurd z n5
          have nw : ¬ o_ws S lm u.2 := fun q => by rcases q with q | q <;> (have := sig _ _ hi.1 q; omega)
          have n112 : ¬ t_is S lm u.2 112 := fun q => by have := sig _ _ hi.1 q; omega
          have eo : o_e S lm u.2 = o_b1 S lm (o_ad u.2) := by unfold o_e; rw [if_neg n112, if_neg nw, if_pos hi.1]
          have ev : o_vn S lm u.2 = (t_nm S lm 2 (o_ad u.2)).1 := by unfold o_vn; rw [if_neg n112, if_neg nw]
          rw [hi.2] at c3 e3
          refine bkX12_order_122 (P2 := fun _ _ => True) (P3 := fun _ _ _ _ => True) (fun _ => ?_) (fun q => by omega) (fun q => by omega) (fun q => by omega)
          refine bkX12_order_149 (P2 := fun _ _ => True) (fun _ => ?_) (fun q => absurd z q) (fun q => absurd z q)
          refine at161 v2 v3 r3 0 m3 _ c3 ((F2.tr f3).mono xk) (fun _ => by rw [eo]; rfl) (fun q => absurd z q) (fun y => ⟨by rw [z]; exact hi.1.2.2.symm, fun _ => ?_, fun q => absurd z q, fun q => by omega⟩)
          rw [ev, e3 (by rw [eo] at y; exact y)]
      have z1 : ((1 : Int) ≠ 0) := by decide
      refine bkX12_order_39 (P8 := fun _ m3 _ m8 => r_R 198 m8 S lm (t_fl u.2 u.2.1) ∧ q_fx (fun c i => c = 188 ∧ i = 22) m3 m8) (fun z => absurd z z1) (fun _ _ => sp_hereM r uf) ?_ ?_ ?_ ?_ ?_ ?_ (fun _ z => absurd (ewr.trans uf) z)
      · rintro _ _ r3 m3 ⟨rfl, g3, -⟩ _ z
        exact at87 1 r3 m3 u.2 _ r eat q_fx.rf (Or.inl ⟨(g3 r3 (by omega)).mp rfl, by omega, rfl, rfl⟩)
      · rintro _ _ r3 m3 ⟨rfl, g3, -⟩ _ _ z
        exact at87 1 r3 m3 u.2 _ r eat q_fx.rf (Or.inl ⟨(g3 r3 (by omega)).mp rfl, by omega, rfl, rfl⟩)
      · rintro _ _ r3 m3 ⟨rfl, g3, -⟩ _ _ _ z
        exact at87 1 r3 m3 u.2 _ r eat q_fx.rf (Or.inl ⟨(g3 r3 (by omega)).mp rfl, by omega, rfl, rfl⟩)
      · rintro _ _ r3 m3 ⟨rfl, g3, -⟩ _ _ _ _ z
        exact at87 1 r3 m3 u.2 _ r eat q_fx.rf (Or.inl ⟨(g3 r3 (by omega)).mp rfl, by omega, rfl, rfl⟩)
      · rintro _ _ r3 m3 ⟨rfl, g3, -⟩ _ y1 y2 y3 y4
        rw [eat]; exact sp_faultM r (by omega) (by omega)
      · rintro _ _ r3 m3 ⟨rfl, g3, -⟩ _ y1 y2 y3 y4 r8 m8 ⟨c8, f8⟩ _
        refine at87 1 r3 m8 _ _ c8 ((f8 188 21 (by omega)).trans eat) (f8.mono (by intro c i; unfold x_rM; omega)) (Or.inr ⟨fun q => y1 ((g3 112 (by decide)).mpr q), fun q => ?_, fun q => y2 ((g3 98 (by decide)).mpr q), y1, y2, rfl, rfl⟩)
        rcases q with q | q
        · exact y3 ((g3 119 (by decide)).mpr q)
        · exact y4 ((g3 115 (by decide)).mpr q)
  have base : ∀ m1, m1 = q_up (q_up (q_up (q_up (q_up (q_up m 188 17 0) 188 19 (m 188 14)) 188 20 60) 188 21 0) 188 22 (-1)) 188 14 0 → q_fx x_orM m m1 ∧ m1 188 14 = 0 ∧ m1 188 19 = m 188 14 ∧ r_R 198 m1 (t_S m 198) (min (m 188 14) 60) (0, -1) := by
    intro m1 hm1
    have F : q_fx x_orM m m1 := by rw [hm1]; refine (((((q_fx.rf.up ?_).up ?_).up ?_).up ?_).up ?_).up ?_ <;> exact Or.inl ⟨rfl, by decide⟩
    refine ⟨F, by rw [hm1, q_up_s], by rw [hm1, q_up_i (by decide), q_up_i (by decide), q_up_i (by decide), q_up_i (by decide), q_up_s], ?_, ?_, fun _ => ?_, ⟨by decide, by show (0 : Int) ≤ min (m 188 14) 60; omega, by omega, by decide, by decide⟩, fun i i0 i1 => ?_, by decide, 80, qs198, by omega⟩
    · rw [hm1, q_up_i (by decide), q_up_i (by decide), q_up_i (by decide), q_up_i (by decide), q_up_s, q_up_i (by decide), q_up_i (by decide), q_up_i (by decide), q_up_s]
    · rw [hm1, q_up_i (by decide), q_up_s]
    · rw [hm1, q_up_i (by decide), q_up_i (by decide), q_up_s]
    · rw [F 198 i (by unfold x_orM; omega)]
      unfold t_S
      by_cases h : 0 ≤ m 198 i
      · rw [if_pos h]; exact Or.inl ⟨rfl, h⟩
      · rw [if_neg h]; exact Or.inr ⟨rfl, by omega⟩
  refine bkX12_order_0 sp_begin3 ?_ ?_
  · rintro _ m1 rfl _ z
    obtain ⟨F, h14, h19, r⟩ := base _ rfl
    have h0 : m 188 14 = 0 := by
      rw [q_up_i (by decide), q_up_i (by decide), q_up_i (by decide), q_up_s] at z
      omega
    have ea : o_all m = (o_G0, (0, -1)) := by unfold o_all; rw [if_pos h0]
    refine bkX12_order_39 (P3 := fun _ _ => True) (P8 := fun _ _ _ _ => True) (fun _ => ?_) (fun z => absurd rfl z) (fun z => absurd rfl z) (fun z => absurd rfl z) (fun z => absurd rfl z) (fun z => absurd rfl z) (fun z => absurd rfl z) (fun z => absurd rfl z) (fun z => absurd rfl z)
    refine at235 0 0 _ (by rw [ea]; exact r) h19 h14 F (fun y => ⟨by rw [ea]; rfl, gv0 y, ?_⟩)
    rw [ea]
    exact fun k k0 k1 => by have k1 : k < (0 : Int) := k1; omega
  · rintro _ m1 rfl _ z
    obtain ⟨F, h14, h19, r⟩ := base _ rfl
    have h0 : m 188 14 ≠ 0 := by
      rw [q_up_i (by decide), q_up_i (by decide), q_up_i (by decide), q_up_s] at z
      omega
    have ea : o_all m = o_tw (t_S m 198) (min (m 188 14) 60) 100 (o_G0, (0, -1)) := by unfold o_all; rw [if_neg h0]
    exact go 100 (o_G0, (0, -1)) _ (by show min (m 188 14) 60 - 0 < 100; omega) rfl r (fun k k0 k1 => by have k1 : k < (0 : Int) := k1; omega) o_G0_V h19 h14 F ea.symm
