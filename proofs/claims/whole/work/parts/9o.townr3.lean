/-! ===== the reference's town(), from its first sign on ===== -/
theorem r_R.fa {b : Int} {m : qm} {S : Int → Int} {lm : Int} {s : a_R} (h : r_R b m S lm s) (hf : s.2 ≠ -1) : m 188 22 ≠ -1 := by rw [h.2.1]; exact hf
theorem rf_town {b : Int} {m : qm} {n : Nat} (t3 : m 188 0 = n) (t1 : n ≤ 9) (gv0 : t_GV n (t_G0 n m)) (x0 : 0 < m 188 14 ∧ m 188 14 ≤ 80) (h51 : 0 ≤ m 188 51 ∧ m 188 51 ≤ 100000) :
    q_Ev yX12_town cX12_town 7 (some .int) 5 0 0 [(2, 188)] (q_sh0, q_rb b, m) (qK (q_rb 198) (r_post n (m 188 14) (t_all n m) m)) := by
  refine q_enter (by decide +kernel) (by simp) (Nat.le_of_ble_eq_true rfl) ?_
  refine bkX12_town_0 sp_begin3 ?_ ?_
  · rintro _ m1 rfl _ _
    have e0 : (q_up (q_up (q_up (q_up (q_up m 188 17 0) 188 19 (m 188 14)) 188 20 76) 188 21 0) 188 22 (-1)) 188 0 = n := by
      rw [q_up_i (by decide), q_up_i (by decide), q_up_i (by decide), q_up_i (by decide), q_up_i (by decide)]; exact t3
    rw [e0]
    generalize hm1 : (q_up (q_up (q_up (q_up (q_up (q_up m 188 17 0) 188 19 (m 188 14)) 188 20 76) 188 21 0) 188 22 (-1)) 188 14 0) = m1
    have F1 : q_fx (x_toM n) m m1 := by rw [← hm1]; refine (((((q_fx.rf.up ?_).up ?_).up ?_).up ?_).up ?_).up ?_ <;> exact Or.inl ⟨rfl, by decide⟩
    have E1 : ∀ c i, c ≠ 188 → m1 c i = m c i := fun c i z => by rw [← hm1, q_up_c z, q_up_c z, q_up_c z, q_up_c z, q_up_c z, q_up_c z]
    have h19 : m1 188 19 = m 188 14 := by rw [← hm1, q_up_i (by decide), q_up_i (by decide), q_up_i (by decide), q_up_i (by decide), q_up_s]
    have h20 : m1 188 20 = 76 := by rw [← hm1, q_up_i (by decide), q_up_i (by decide), q_up_i (by decide), q_up_s]
    have h14 : m1 188 14 = 0 := by rw [← hm1, q_up_s]
    have r1 : r_R 198 m1 (t_S m 198) (min (m 188 14) 76) (0, -1) := by
      refine ⟨by rw [h19, h20], ?_, fun _ => ?_, ⟨by decide, by show (0 : Int) ≤ min (m 188 14) 76; omega, by omega, by decide, by decide⟩, fun i i0 i1 => ?_, by decide, 80, qs198, by omega⟩
      · rw [← hm1, q_up_i (by decide), q_up_s]
      · rw [← hm1, q_up_i (by decide), q_up_i (by decide), q_up_s]
      · rw [E1 198 i (by decide)]
        unfold t_S
        by_cases h : 0 ≤ m 198 i
        · rw [if_pos h]; exact Or.inl ⟨rfl, h⟩
        · rw [if_neg h]; exact Or.inr ⟨rfl, by omega⟩
    have g1 : r_G n m1 (t_G0 n m) 0 := by
      obtain ⟨z7, z0, z1, z2, z3, z4, z5, z6⟩ := t_G0_s (n := n) (m := m)
      refine ⟨fun i i0 i1 => ?_, fun j j0 j1 => by omega, fun d d0 d1 => ?_, fun k hk => by omega⟩
      · rw [z0, z2, z3, z4, z5, E1 189 i (by decide), E1 191 i (by decide), E1 192 i (by decide), E1 193 i (by decide), E1 194 i (by decide)]; exact ⟨rfl, rfl, rfl, rfl, rfl⟩
      · show m1 197 d = _; rw [E1 197 d (by decide), z6]
    clear hm1
    have xrM : ∀ c i, x_rM c i → x_toM n c i := by intro c i; unfold x_rM x_toM; omega
    -- the end
    have at225 : ∀ (v1 v2 v4 : Int) (m' : qm), m' 188 22 = t_end (m 188 14) 76 (t_all n m).2.2 → m' 188 14 = 0 → q_fx (x_toM n) m m' → (t_end (m 188 14) 76 (t_all n m).2.2 = -1 ∨ 0 ≤ t_end (m 188 14) 76 (t_all n m).2.2) → t_end (m 188 14) 76 (t_all n m).2.2 ≤ 80 → (t_end (m 188 14) 76 (t_all n m).2.2 = -1 → v1 = (t_all n m).2.1 7 0 ∧ t_GV n (t_all n m).2.1 ∧ ∃ w : Nat, v2 = w ∧ w ≤ 80 ∧ r_G n m' (t_all n m).2.1 w) →
        q_At yX12_town cX12_town 7 (some .int) 5 0 0 (qK (q_rb 198) (r_post n (m 188 14) (t_all n m) m)) 225 [(2, 188), (0, v1), (0, v2), (0, (t_all n m).1), (0, v4), (4, 0), (4, 0)] [] (q_sh0, q_rb 198, m') := by
      intro v1 v2 v4 m' h22 g14 F nn n80 hg
      refine bkX12_town_225 (b := 198) (fun z => ?_) (fun z => q_in_of (by omega) (by omega)) (fun z => ⟨?_, g14, F.mono (fun c i z => Or.inl z), fun _ => F, fun y => absurd (h22.trans y) z⟩)
      · obtain ⟨rfl, gv, w, rfl, hw, g⟩ := hg (h22.symm.trans z)
        have e0 : m' 188 0 = n := (F 188 0 (by unfold x_toM; omega)).trans t3
        rw [e0]
        exact rf_at245 (h22.symm.trans z) hw ⟨gv.2.1, gv.2.2.1⟩ g e0 (F 188 51 (by unfold x_toM; omega)) h51 ((t_all n m).2.1 7 0 - n).toNat n m' (Int.le_refl _) (by have := gv.2.1; omega) (F.mono (fun c i z => Or.inl z)) q_fx.rf g14 (fun i i0 i1 => by omega) v4
      · unfold t_ans; rw [if_neg (by rw [← h22]; exact z), h22]
    have at206 : ∀ (v1 v2 v4 : Int) (m' : qm), r_R 198 m' (t_S m 198) (min (m 188 14) 76) (t_all n m).2.2 → m' 188 19 = m 188 14 → m' 188 14 = 0 → q_fx (x_toM n) m m' → ((t_all n m).2.2.2 = -1 → v1 = (t_all n m).2.1 7 0 ∧ t_GV n (t_all n m).2.1 ∧ ∃ w : Nat, v2 = w ∧ w ≤ 80 ∧ r_G n m' (t_all n m).2.1 w) →
        q_At yX12_town cX12_town 7 (some .int) 5 0 0 (qK (q_rb 198) (r_post n (m 188 14) (t_all n m) m)) 206 [(2, 188), (0, v1), (0, v2), (0, (t_all n m).1), (0, v4), (4, 0), (4, 0)] [] (q_sh0, q_rb 198, m') := by
      intro v1 v2 v4 m' r g19 g14 F hg
      have ok := r.2.2.2.1
      obtain ⟨k1, k2, k3, k4, k5⟩ := ok
      have nn := t_end_nn r.2.2.2.1 (by decide : (0 : Int) ≤ 76)
      by_cases hf : (t_all n m).2.2.2 = -1
      · have eat := r.2.2.1 hf
        refine bkX12_town_206 (b := 198) (P2 := fun _ m2 => r_R 198 m2 (t_S m 198) (min (m 188 14) 76) (t_fl (t_all n m).2.2 (t_all n m).2.2.1) ∧ q_fx (fun c i => c = 188 ∧ i = 22) m' m2) (fun z => ?_) (fun z => ?_) ?_
        · have te : t_end (m 188 14) 76 (t_all n m).2.2 = -1 := t_end_no hf (by omega) (by omega)
          exact at225 v1 v2 v4 m' (by rw [te, r.2.1]; exact hf) g14 F (Or.inl te) (by omega) (fun _ => hg hf)
        · rw [eat]; exact sp_faultM r (by omega) (by omega)
        · rintro z _ m2 ⟨r2, f2⟩ _
          have te : t_end (m 188 14) 76 (t_all n m).2.2 = (t_all n m).2.2.1 := by
            by_cases c : (t_all n m).2.2.1 < min (m 188 14) 76
            · exact t_end_lt hf c
            · rw [t_end_lo hf c (by omega)]; omega
          refine at225 v1 v2 v4 m2 ?_ ((f2 188 14 (by omega)).trans g14) (F.tr (f2.mono (by intro c i; unfold x_toM; omega))) (Or.inr (by omega)) (by omega) (fun y => by omega)
          rw [te, r2.2.1, t_fl_ok hf]
      · have te : t_end (m 188 14) 76 (t_all n m).2.2 = (t_all n m).2.2.2 := t_end_fl hf
        have r22 := r.2.1
        have fin := at225 v1 v2 v4 m' (by rw [te]; exact r22) g14 F (Or.inr (by omega)) (by omega) (fun y => absurd (te.symm.trans y) hf)
        refine bkX12_town_206 (b := 198) (P2 := fun _ m2 => m2 = m') (fun z => fin) (fun z => sp_faultFl (by omega)) ?_
        rintro z _ m2 rfl _
        exact fin
    have go : ∀ (f : Nat) (w : Nat) (v3 : Int) (u : qm × a_R) (m' : qm), min (m 188 14) 76 - u.2.1 < f → 0 ≤ v3 → 2 * v3 ≤ u.2.1 → (w : Int) ≤ v3 → u.2.2 = -1 → r_R 198 m' (t_S m 198) (min (m 188 14) 76) u.2 → r_G n m' u.1 w → t_GV n u.1 → m' 188 19 = m 188 14 → m' 188 14 = 0 → q_fx (x_toM n) m m' → t_tw (t_S m 198) (min (m 188 14) 76) f v3 u = t_all n m →
        q_At yX12_town cX12_town 7 (some .int) 5 0 0 (qK (q_rb 198) (r_post n (m 188 14) (t_all n m) m)) 45 [(2, 188), (0, u.1 7 0), (0, (w : Int)), (0, v3), (0, 1), (4, 0), (4, 0)] [] (q_sh0, q_rb 198, m') := by
      intro f
      induction f with
      | zero =>
        intro w v3 u m' hf v0 v2 wv uf r g gv g19 g14 F he
        have := r.2.2.2.1.2.1
        omega
      | succ f ih =>
        intro w v3 u m' hf v0 v2 wv uf r g gv g19 g14 F he
        have ok := r.2.2.2.1
        have okl := t_line_ok (S := t_S m 198) ok
        have gvl := gv.line (S := t_S m 198) ok
        have k2 := ok.2.1
        obtain ⟨gn0, gn1, gn2, -⟩ := gv
        simp only [t_tw] at he
        have ewr := r.2.1
        have eat := r.2.2.1 uf
        have at192 : ∀ (v1 v2' v4 : Int) (m2 : qm), r_R 198 m2 (t_S m 198) (min (m 188 14) 76) (t_line (t_S m 198) (min (m 188 14) 76) u).2 → m2 188 19 = m 188 14 → m2 188 14 = 0 → q_fx (x_toM n) m m2 → ((t_line (t_S m 198) (min (m 188 14) 76) u).2.2 = -1 → v1 = (t_line (t_S m 198) (min (m 188 14) 76) u).1 7 0 ∧ ∃ w2 : Nat, v2' = w2 ∧ (w2 : Int) ≤ v3 + 1 ∧ r_G n m2 (t_line (t_S m 198) (min (m 188 14) 76) u).1 w2) →
            q_At yX12_town cX12_town 7 (some .int) 5 0 0 (qK (q_rb 198) (r_post n (m 188 14) (t_all n m) m)) 192 [(2, 188), (0, v1), (0, v2'), (0, v3), (0, v4), (4, 0), (4, 0)] [] (q_sh0, q_rb 198, m2) := by
          intro v1 v2' v4 m2 r2 q19 q14 F2 hg
          refine bkX12_town_192 (b := 198) (q_in_of (by omega) (by omega)) (sp_passesM r2 (by decide)) ?_
          rintro r3 m3 ⟨g3, f3⟩ _
          have F3 : q_fx (x_toM n) m m3 := F2.tr (f3.mono xrM)
          have q19' : m3 188 19 = m 188 14 := (f3 188 19 (by unfold x_rM; omega)).trans q19
          have q14' : m3 188 14 = 0 := (f3 188 14 (by unfold x_rM; omega)).trans q14
          rcases g3 with ⟨rfl, i3, c3⟩ | ⟨rfl, i3, c3⟩
          · rw [if_pos i3] at he
            have lp := (t_line_p ok i3.1).2
            obtain ⟨rfl, w2, rfl, hw2, g2⟩ := hg i3.1
            exact ih w2 (v3 + 1) ((t_line (t_S m 198) (min (m 188 14) 76) u).1, ((t_line (t_S m 198) (min (m 188 14) 76) u).2.1 + 1, (t_line (t_S m 198) (min (m 188 14) 76) u).2.2)) m3 (by show min (m 188 14) 76 - ((t_line (t_S m 198) (min (m 188 14) 76) u).2.1 + 1) < f; omega) (by omega) (by show 2 * (v3 + 1) ≤ (t_line (t_S m 198) (min (m 188 14) 76) u).2.1 + 1; omega) hw2 i3.1 c3 (g2.fr f3 (by intro c i; unfold x_rM; omega)) gvl q19' q14' F3 he
          · rw [if_neg i3] at he
            have e21 : (t_all n m).2.2 = (t_line (t_S m 198) (min (m 188 14) 76) u).2 := by rw [← he]
            have e22 : (t_all n m).2.1 = (t_line (t_S m 198) (min (m 188 14) 76) u).1 := by rw [← he]
            have e20 : (t_all n m).1 = v3 + 1 := by rw [← he]
            refine bkX12_town_45 (b := 198) (P3 := fun _ _ => True) (P6 := fun _ _ _ _ => True) (P7 := fun _ _ _ _ => True) (P8 := fun _ _ _ _ => True) (P9 := fun _ _ _ _ _ _ => True) (P10 := fun _ _ _ _ _ _ _ _ => True) (P13 := fun _ _ _ _ _ _ _ _ _ _ => True) (fun _ => ?_) (fun z => absurd rfl z) (fun z => absurd rfl z) (fun z => absurd rfl z) (fun z => absurd rfl z) (fun z => absurd rfl z) (fun z => absurd rfl z) (fun z => absurd rfl z) (fun z => absurd rfl z) (fun z => absurd rfl z) (fun z => absurd rfl z) (fun z => absurd rfl z) (fun z => absurd rfl z) (fun z => absurd rfl z) (fun z => absurd rfl z) (fun z => absurd rfl z)
            have fin := at206 v1 v2' 0 m3 (by rw [e21]; exact c3) q19' q14' F3 (fun z => ?_)
            · rw [e20] at fin; exact fin
            · rw [e21] at z
              obtain ⟨rfl, w2, rfl, hw2, g2⟩ := hg z
              rw [e22]
              exact ⟨rfl, gvl, w2, rfl, by omega, g2.fr f3 (by intro c i; unfold x_rM; omega)⟩
        -- a debt's last things
        have at114 : ∀ (v5 v6 : Int) (m2 : qm), t_is (t_S m 198) (min (m 188 14) 76) u.2 100 → r_R 198 m2 (t_S m 198) (min (m 188 14) 76) (d_4 (t_S m 198) (min (m 188 14) 76) (u.2.1 + 1, u.2.2)) → q_fx x_rM m' m2 → ((d_4 (t_S m 198) (min (m 188 14) 76) (u.2.1 + 1, u.2.2)).2 = -1 → v5 = d_a (t_S m 198) (min (m 188 14) 76) (u.2.1 + 1, u.2.2) ∧ v6 = d_b (t_S m 198) (min (m 188 14) 76) (u.2.1 + 1, u.2.2)) →
            q_At yX12_town cX12_town 7 (some .int) 5 0 0 (qK (q_rb 198) (r_post n (m 188 14) (t_all n m) m)) 114 [(2, 188), (0, u.1 7 0), (0, (w : Int)), (0, v3), (0, 1), (0, v5), (0, v6)] [] (q_sh0, q_rb 198, m2) := by
          intro v5 v6 m2 hi r2 f2 hv
          have ok1 := ok.nx (S := t_S m 198) hi.2.1
          refine bkX12_town_114 (b := 198) (P2 := fun _ m3 r m4 => r_R 198 m4 (t_S m 198) (min (m 188 14) 76) (d_6 (t_S m 198) (min (m 188 14) 76) (u.2.1 + 1, u.2.2)) ∧ ((d_6 (t_S m 198) (min (m 188 14) 76) (u.2.1 + 1, u.2.2)).2 = -1 → r = d_v (t_S m 198) (min (m 188 14) 76) (u.2.1 + 1, u.2.2)) ∧ q_fx x_rM (q_up (q_up m3 200 (3 * w) v5) 200 (3 * w + 1) v6) m4) (sp_needM r2 (by decide)) (fun _ _ _ _ => ⟨q_in_of (by omega) (by omega), by omega, q_in_of (by omega) (by omega), by omega, q_in_of (by omega) (by omega)⟩) ?_ (fun _ _ _ _ _ _ _ _ => ⟨by omega, q_in_of (by omega) (by omega)⟩) ?_
          · rintro _ m3 ⟨r3, f3⟩ _
            refine sp_numM 3 (by decide) (r3.fr (X := fun c _ => c = 200) (q_fx.up (X := fun c _ => c = 200) (q_fx.up (X := fun c _ => c = 200) q_fx.rf rfl) rfl) (by omega))
          · rintro _ m3 ⟨r3, f3⟩ _ r4 m4 ⟨c4, e4, f4⟩ _
            have F4 : q_fx (fun c i => x_rM c i ∨ c = 200) m' (q_up m4 200 (3 * w + 2) r4) := by
              refine q_fx.up ?_ (Or.inr rfl)
              refine q_fx.tr ?_ (f4.mono (fun c i z => Or.inl z))
              refine q_fx.up (q_fx.up ((f2.tr f3).mono (fun c i z => Or.inl z)) ?_) ?_ <;> exact Or.inr rfl
            have el : (t_line (t_S m 198) (min (m 188 14) 76) u).2 = d_6 (t_S m 198) (min (m 188 14) 76) (u.2.1 + 1, u.2.2) := by unfold t_line; rw [if_pos hi]
            have h200 : ∀ i, (q_up m4 200 (3 * w + 2) r4) 200 i = (q_up (q_up (q_up m' 200 (3 * w) v5) 200 (3 * w + 1) v6) 200 (3 * w + 2) r4) 200 i := by
              intro i
              by_cases q : i = 3 * w + 2
              · rw [q, q_up_s, q_up_s]
              · rw [q_up_i q, q_up_i q, f4 200 i (by unfold x_rM; omega)]
                by_cases q1 : i = 3 * w + 1
                · rw [q1, q_up_s, q_up_s]
                · rw [q_up_i q1, q_up_i q1]
                  by_cases q2 : i = 3 * w
                  · rw [q2, q_up_s, q_up_s]
                  · rw [q_up_i q2, q_up_i q2, f3 200 i (by unfold x_rM; omega), f2 200 i (by unfold x_rM; omega)]
            have er : ∀ c i, c ≠ 188 → c ≠ 200 → (q_up m4 200 (3 * w + 2) r4) c i = m' c i := fun c i z1 z2 => F4 c i (by unfold x_rM; omega)
            refine at192 _ _ _ _ (by rw [el]; exact c4.fr (X := fun c _ => c = 200) (q_fx.rf.up rfl) (by omega)) ((F4 188 19 (by unfold x_rM; omega)).trans g19) ((F4 188 14 (by unfold x_rM; omega)).trans g14) (F.tr (F4.mono (by intro c i; unfold x_rM x_toM; omega))) (fun z => ?_)
            rw [el] at z
            have dp := d_p ok1 z
            have z4 : (d_4 (t_S m 198) (min (m 188 14) 76) (u.2.1 + 1, u.2.2)).2 = -1 := t_nd_s (d_ok4 ok1) (t_rn_s (d_ok5 ok1) z)
            obtain ⟨rfl, rfl⟩ := hv z4
            have e4 := e4 z
            subst e4
            have elG : (t_line (t_S m 198) (min (m 188 14) 76) u).1 = q_up u.1 6 (6 * d_a (t_S m 198) (min (m 188 14) 76) (u.2.1 + 1, u.2.2) + d_b (t_S m 198) (min (m 188 14) 76) (u.2.1 + 1, u.2.2)) (d_v (t_S m 198) (min (m 188 14) 76) (u.2.1 + 1, u.2.2)) := by
              unfold t_line; rw [if_pos hi]; show (if (d_6 (t_S m 198) (min (m 188 14) 76) (u.2.1 + 1, u.2.2)).2 = -1 then _ else _) = _; rw [if_pos z]
            rw [elG]
            obtain ⟨ga, gb, gc, gd⟩ := g
            refine ⟨(q_up_c (by decide)).symm, w + 1, by omega, by omega, fun i i0 i1 => ?_, fun j j0 j1 => ?_, fun d d0 d1 => ?_, fun q hq => ?_⟩
            · rw [q_up_c (by decide)] at i1
              rw [q_up_c (c := 6) (by decide), q_up_c (c := 6) (by decide), q_up_c (c := 6) (by decide), q_up_c (c := 6) (by decide), q_up_c (c := 6) (by decide), er 189 i (by decide) (by decide), er 191 i (by decide) (by decide), er 192 i (by decide) (by decide), er 193 i (by decide) (by decide), er 194 i (by decide) (by decide)]
              exact ga i i0 i1
            · rw [q_up_c (by decide)] at j1
              rw [q_up_c (c := 6) (by decide), er 190 j (by decide) (by decide)]; exact gb j j0 j1
            · simp only [g_ap]
              rw [h200 (3 * w), h200 (3 * w + 1), h200 (3 * w + 2), q_up_s, q_up_i (c := 200) (i := 3 * w + 2) (j := 3 * w) (by omega), q_up_i (c := 200) (i := 3 * w + 1) (j := 3 * w) (by omega), q_up_s, q_up_i (c := 200) (i := 3 * w + 2) (j := 3 * w + 1) (by omega), q_up_s]
              by_cases q : d = 6 * d_a (t_S m 198) (min (m 188 14) 76) (u.2.1 + 1, u.2.2) + d_b (t_S m 198) (min (m 188 14) 76) (u.2.1 + 1, u.2.2)
              · rw [if_pos q, q, q_up_s]
              · rw [if_neg q, q_up_i q, ← gc d d0 d1]
                refine g_ap_en w (fun x => er 197 x (by decide) (by decide)) (fun i i0 i1 => ?_) d
                rw [h200, q_up_i (by omega), q_up_i (by omega), q_up_i (by omega)]
            · rw [h200, h200]
              by_cases qw : q = w
              · subst qw
                rw [q_up_i (c := 200) (i := 3 * q + 2) (j := 3 * q) (by omega), q_up_i (c := 200) (i := 3 * q + 1) (j := 3 * q) (by omega), q_up_s, q_up_i (c := 200) (i := 3 * q + 2) (j := 3 * q + 1) (by omega), q_up_s]
                exact ⟨dp.1, dp.2.1⟩
              · rw [q_up_i (by omega), q_up_i (by omega), q_up_i (by omega), q_up_i (by omega), q_up_i (by omega), q_up_i (by omega)]
                exact gd q (by omega)
        refine bkX12_town_45 (b := 198) (P6 := fun _ m3 _ m6 => r_R 198 m6 (t_S m 198) (min (m 188 14) 76) (j_e (t_S m 198) (min (m 188 14) 76) (u.1 4) (u.1 7 0) u.2) ∧ q_fx (x_jM (u.1 7 0)) m3 m6 ∧ ((j_e (t_S m 198) (min (m 188 14) 76) (u.1 4) (u.1 7 0) u.2).2 = -1 → m6 189 (u.1 7 0) = j_v1 (t_S m 198) (min (m 188 14) 76) u.2 ∧ m6 190 (u.1 7 0) = j_v2 (t_S m 198) (min (m 188 14) 76) u.2 ∧ m6 191 (u.1 7 0) = j_v3 (t_S m 198) (min (m 188 14) 76) u.2 ∧ m6 192 (u.1 7 0) = j_v4 (t_S m 198) (min (m 188 14) 76) u.2 ∧ m6 193 (u.1 7 0) = j_v5 (t_S m 198) (min (m 188 14) 76) u.2 ∧ m6 194 (u.1 7 0) = j_v6 (t_S m 198) (min (m 188 14) 76) u.2))
          (P7 := fun _ m3 _ m7 => r_R 198 m7 (t_S m 198) (min (m 188 14) 76) (t_fl u.2 u.2.1) ∧ q_fx x_rM m3 m7)
          (P8 := fun _ _ r m8 => r_R 198 m8 (t_S m 198) (min (m 188 14) 76) (d_1 (t_S m 198) (min (m 188 14) 76) (u.2.1 + 1, u.2.2)) ∧ ((d_1 (t_S m 198) (min (m 188 14) 76) (u.2.1 + 1, u.2.2)).2 = -1 → r = d_a (t_S m 198) (min (m 188 14) 76) (u.2.1 + 1, u.2.2)) ∧ q_fx x_rM m' m8)
          (P9 := fun _ _ _ _ _ m8 => r_R 198 m8 (t_S m 198) (min (m 188 14) 76) (d_2 (t_S m 198) (min (m 188 14) 76) (u.2.1 + 1, u.2.2)) ∧ q_fx x_rM m' m8)
          (P10 := fun _ _ _ _ _ _ r m8 => r_R 198 m8 (t_S m 198) (min (m 188 14) 76) (d_3 (t_S m 198) (min (m 188 14) 76) (u.2.1 + 1, u.2.2)) ∧ ((d_3 (t_S m 198) (min (m 188 14) 76) (u.2.1 + 1, u.2.2)).2 = -1 → r = d_b (t_S m 198) (min (m 188 14) 76) (u.2.1 + 1, u.2.2)) ∧ q_fx x_rM m' m8)
          (P13 := fun _ _ _ _ _ _ _ _ _ m8 => r_R 198 m8 (t_S m 198) (min (m 188 14) 76) (t_fl (d_3 (t_S m 198) (min (m 188 14) 76) (u.2.1 + 1, u.2.2)) ((d_3 (t_S m 198) (min (m 188 14) 76) (u.2.1 + 1, u.2.2)).1 - 1)) ∧ q_fx x_rM m' m8)
          (fun z => absurd z (by decide)) (fun _ _ => sp_passesM r (by decide)) ?_ (fun _ _ _ _ _ _ _ _ _ _ _ _ => q_in_of (by omega) (by omega)) ?_ ?_ ?_ ?_ ?_ ?_ ?_ ?_ ?_ ?_ ?_ (fun _ z => absurd (ewr.trans uf) z)
        · rintro _ _ r3 m3 ⟨g3, f3⟩ _ z y
          have g3 := g3.resolve_left (fun y => by omega)
          exact sp_readJarM g3.2.2 rfl (by omega) (fun i i0 i1 => (f3 193 i (by unfold x_rM; omega)).trans (g.1 i i0 i1).2.2.2.1)
        · rintro _ _ r3 m3 ⟨g3, f3⟩ _ z y r6 m6 ⟨c6, f6, h6⟩ _
          have g3 := g3.resolve_left (fun y => by omega)
          have lt9 : u.1 7 0 < 9 := by omega
          have el : (t_line (t_S m 198) (min (m 188 14) 76) u).2 = j_e (t_S m 198) (min (m 188 14) 76) (u.1 4) (u.1 7 0) u.2 := by unfold t_line; rw [if_neg g3.2.1, if_pos lt9]
          have F6 : q_fx (x_jM (u.1 7 0)) m' m6 := (f3.mono (fun c i z => Or.inl z)).tr f6
          refine at192 _ _ _ _ (by rw [el]; exact c6) ((F6 188 19 (by unfold x_jM x_rM; omega)).trans g19) ((F6 188 14 (by unfold x_jM x_rM; omega)).trans g14) (F.tr (F6.mono (by intro c i; unfold x_jM x_rM x_toM; omega))) (fun q => ?_)
          rw [el] at q
          have elG : (t_line (t_S m 198) (min (m 188 14) 76) u).1 = t_put (t_S m 198) (min (m 188 14) 76) u.2 u.1 := by
            unfold t_line; rw [if_neg g3.2.1, if_pos lt9]; show (if (j_e (t_S m 198) (min (m 188 14) 76) (u.1 4) (u.1 7 0) u.2).2 = -1 then _ else _) = _; rw [if_pos q]
          rw [elG]
          obtain ⟨s7, s0, s1, s2, s3, s4, s5⟩ := t_put_s (S := t_S m 198) (lm := min (m 188 14) 76) (s := u.2) (G := u.1)
          obtain ⟨h1, h2, h3, h4, h5, h6⟩ := h6 q
          obtain ⟨ga, gb, gc, gd⟩ := g
          refine ⟨s7.symm, w, rfl, by omega, fun i i0 i1 => ?_, fun j j0 j1 => ?_, fun d d0 d1 => ?_, fun q hq => ?_⟩
          · by_cases hi : i = u.1 7 0
            · rw [hi, s0, s2, s3, s4, s5]; exact ⟨h1, h3, h4, h5, h6⟩
            · rw [t_put_o (by decide) hi, t_put_o (by decide) hi, t_put_o (by decide) hi, t_put_o (by decide) hi, t_put_o (by decide) hi, F6 189 i (by unfold x_jM x_rM; omega), F6 191 i (by unfold x_jM x_rM; omega), F6 192 i (by unfold x_jM x_rM; omega), F6 193 i (by unfold x_jM x_rM; omega), F6 194 i (by unfold x_jM x_rM; omega)]
              exact ga i i0 (by omega)
          · by_cases hj : j = u.1 7 0
            · rw [hj, s1]; exact h2
            · rw [t_put_o (by decide) hj, F6 190 j (by unfold x_jM x_rM; omega)]; exact gb j j0 (by omega)
          · rw [t_put_6, ← gc d d0 d1]
            exact g_ap_en w (fun x => F6 197 x (by unfold x_jM x_rM; omega)) (fun i _ _ => F6 200 i (by unfold x_jM x_rM; omega)) d
          · rw [F6 200 _ (by unfold x_jM x_rM; omega), F6 200 _ (by unfold x_jM x_rM; omega)]; exact gd q hq
        · rintro _ _ r3 m3 ⟨g3, f3⟩ _ z y
          have g3 := g3.resolve_left (fun y => by omega)
          rw [g3.2.2.2.2.1 uf]
          exact (sp_faultM g3.2.2 (by have := ok.1; omega) (by have := ok.2.2.1; omega)).post (fun _ _ q => ⟨q.1, q.2.mono (by intro c i; unfold x_rM; omega)⟩)
        · rintro _ _ r3 m3 ⟨g3, f3⟩ _ z y r7 m7 ⟨c7, f7⟩ _
          have g3 := g3.resolve_left (fun y => by omega)
          have el : (t_line (t_S m 198) (min (m 188 14) 76) u).2 = t_fl u.2 u.2.1 := by unfold t_line; rw [if_neg g3.2.1, if_neg (by omega)]
          have F7 : q_fx x_rM m' m7 := f3.tr f7
          refine at192 _ _ _ _ (by rw [el]; exact c7) ((F7 188 19 (by unfold x_rM; omega)).trans g19) ((F7 188 14 (by unfold x_rM; omega)).trans g14) (F.tr (F7.mono xrM)) (fun q => ?_)
          exfalso
          rw [el, t_fl_ok uf] at q
          have := ok.1
          have q : u.2.1 = -1 := q
          omega
        · rintro _ _ r3 m3 ⟨g3, f3⟩ _ z
          have g3 := g3.resolve_right (fun y => by omega)
          exact (sp_numM 1 (by decide) g3.2.2).post (fun _ _ q => ⟨q.1, q.2.1, f3.tr q.2.2⟩)
        · rintro _ _ r3 m3 - _ z r8 m8 ⟨c8, e8, f8⟩ _
          exact (sp_needM c8 (by decide)).post (fun _ _ q => ⟨q.1, f8.tr q.2⟩)
        · rintro _ _ r3 m3 - _ z r8 m8 - _ r9 m9 ⟨c9, f9⟩ _
          exact (sp_numM 1 (by decide) c9).post (fun _ _ q => ⟨q.1, q.2.1, f9.tr q.2.2⟩)
        · rintro _ _ r3 m3 ⟨g3, -⟩ _ z r8 m8 ⟨c8, e8, f8⟩ _ r9 m9 - _ r10 m10 ⟨c10, e10, f10⟩ _ fi ne
          have g3 := g3.resolve_right (fun y => by omega)
          have ok1 := ok.nx (S := t_S m 198) g3.2.1.2.1
          have z3 : (d_3 (t_S m 198) (min (m 188 14) 76) (u.2.1 + 1, u.2.2)).2 = -1 := by rw [← c10.2.1]; exact fi
          have z1 := t_nd_s (d_ok1 ok1) (t_rn_s (d_ok2 ok1) z3)
          have ea := e8 z1
          have eb := e10 z3
          refine at114 r8 r10 m10 g3.2.1 ?_ f10 (fun _ => ⟨ea, eb⟩)
          unfold d_4; rw [if_neg (by rw [← ea, ← eb]; exact ne)]; exact c10
        · rintro _ _ r3 m3 ⟨g3, -⟩ _ z r8 m8 ⟨c8, e8, f8⟩ _ r9 m9 - _ r10 m10 ⟨c10, e10, f10⟩ _ fi eq
          have := c10.2.2.1 (by rw [← c10.2.1]; exact fi)
          obtain ⟨o1, o2, o3, -⟩ := c10.2.2.2.1
          exact q_in_of (by omega) (by omega)
        · rintro _ _ r3 m3 ⟨g3, -⟩ _ z r8 m8 ⟨c8, e8, f8⟩ _ r9 m9 - _ r10 m10 ⟨c10, e10, f10⟩ _ fi eq
          rw [c10.2.2.1 (by rw [← c10.2.1]; exact fi)]
          obtain ⟨o1, o2, o3, -⟩ := c10.2.2.2.1
          exact (sp_faultM c10 (by omega) (by omega)).post (fun _ _ q => ⟨q.1, f10.tr (q.2.mono (by intro c i; unfold x_rM; omega))⟩)
        · rintro _ _ r3 m3 ⟨g3, -⟩ _ z r8 m8 ⟨c8, e8, f8⟩ _ r9 m9 - _ r10 m10 ⟨c10, e10, f10⟩ _ fi eq r13 m13 ⟨c13, f13⟩ _
          have g3 := g3.resolve_right (fun y => by omega)
          have ok1 := ok.nx (S := t_S m 198) g3.2.1.2.1
          have z3 : (d_3 (t_S m 198) (min (m 188 14) 76) (u.2.1 + 1, u.2.2)).2 = -1 := by rw [← c10.2.1]; exact fi
          have z1 := t_nd_s (d_ok1 ok1) (t_rn_s (d_ok2 ok1) z3)
          have ea := e8 z1
          have eb := e10 z3
          refine at114 r8 r10 m13 g3.2.1 ?_ f13 (fun _ => ⟨ea, eb⟩)
          unfold d_4; rw [if_pos (by rw [← ea, ← eb]; exact eq)]; exact c13
        · rintro _ _ r3 m3 ⟨g3, -⟩ _ z r8 m8 ⟨c8, e8, f8⟩ _ r9 m9 - _ r10 m10 ⟨c10, e10, f10⟩ _ fi
          have g3 := g3.resolve_right (fun y => by omega)
          have z3 : (d_3 (t_S m 198) (min (m 188 14) 76) (u.2.1 + 1, u.2.2)).2 ≠ -1 := by rw [← c10.2.1]; exact fi
          have e4 : d_4 (t_S m 198) (min (m 188 14) 76) (u.2.1 + 1, u.2.2) = d_3 (t_S m 198) (min (m 188 14) 76) (u.2.1 + 1, u.2.2) := by unfold d_4; rw [t_fl_fl z3]; split <;> rfl
          exact at114 r8 r10 m10 g3.2.1 (by rw [e4]; exact c10) f10 (fun q => absurd (by rw [← e4]; exact q) z3)
    exact go 100 0 0 (t_G0 n m, (0, -1)) m1 (by show min (m 188 14) 76 - 0 < 100; omega) (by decide) (by show (2 : Int) * 0 ≤ 0; decide) (by decide) rfl r1 g1 gv0 h19 h14 F1 rfl
  · rintro _ m1 rfl _ z
    exfalso
    rw [q_up_i (by decide), q_up_i (by decide), q_up_i (by decide), q_up_s] at z
    omega
