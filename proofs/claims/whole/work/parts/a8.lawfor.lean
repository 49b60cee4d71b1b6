/-! ===== what the law is, by the reference; wax() ===== -/
theorem g_s6 (f : Int → Int) : g_s f 6 = f 0 + f 1 + f 2 + f 3 + f 4 + f 5 := by
  show 0 + f ((0 : Nat) : Int) + f ((1 : Nat) : Int) + f ((2 : Nat) : Int) + f ((3 : Nat) : Int) + f ((4 : Nat) : Int) + f ((5 : Nat) : Int) = _
  rw [Int.zero_add]; rfl
theorem l_eA_in {B : Int} {n : Nat} {T : a_T} {A : a_W} (t : a_TV n T) (v : a_V B n T.1 A) (hB : B ≤ 1000000) {j : Int} (hj : 0 ≤ j ∧ j < n) (i : Int) : q_in32 (l_eA T A j i) := by
  have h9 := t.1
  have tj := t.2 j hj.1 hj.2
  have wj := v.1 j hj.1 hj.2
  have q := fun (d : Int) (d0 : 0 ≤ d) (d1 : d < 36) => v.2.2.1 d d0 d1
  have q0 := q (6 * T.2.1 j + 0) (by omega) (by omega)
  have q1 := q (6 * T.2.1 j + 1) (by omega) (by omega)
  have q2 := q (6 * T.2.1 j + 2) (by omega) (by omega)
  have q3 := q (6 * T.2.1 j + 3) (by omega) (by omega)
  have q4 := q (6 * T.2.1 j + 4) (by omega) (by omega)
  have q5 := q (6 * T.2.1 j + 5) (by omega) (by omega)
  have be0 := v.2.2.2.2.1
  have be1 := v.2.2.2.2.2.1
  unfold l_eA
  rw [g_s6]
  repeat' split
  all_goals first | exact q_r32 _ | exact q_in_of (by omega) (by omega)
abbrev x_lf (c i : Int) : Prop := c = 188 ∧ ((19 ≤ i ∧ i ≤ 22) ∨ i = 26)
theorem rf_lawFor {b B : Int} {m : qm} {n : Nat} {T : a_T} {A : a_W} {C : List Int} (cT : r_T m n T) (cW : r_W m n A) (t : a_TV n T) (v : a_V B n T.1 A) (hB : B ≤ 1000000) (hC : l_cR m C) {j : Int} (hj : 0 ≤ j ∧ j < n) :
    q_Ev yX12_lawFor cX12_lawFor 2 (some .int) 71 0 0 [(2, 188), (0, j)] (q_sh0, q_rb b, m) (qE (fun r m' => r = l_val C T A j ∧ q_fx x_lf m m')) := by
  obtain ⟨h1, h2, h3, h4⟩ := hC
  have h9 := t.1
  refine q_enter (by decide +kernel) (by simp) (Nat.le_of_ble_eq_true rfl) ?_
  refine bkX12_lawFor_0 (P3 := fun _ m2 r m3 => r = l_val C T A j ∧ q_fx x_rM (q_up m2 188 26 j) m3) (fun _ => sp_begin3) ?_ ?_ (fun z => ⟨by unfold l_val; rw [if_pos (h3.mp z)], q_fx.rf⟩)
  · rintro z _ m2 rfl _
    obtain ⟨S, hp, hS⟩ := h4 z
    generalize hm3 : q_up (q_up (q_up (q_up (q_up m 188 19 (m 188 25)) 188 20 40) 188 21 0) 188 22 (-1)) 188 26 j = m3
    have F : q_fx x_lf m m3 := by rw [← hm3]; refine ((((q_fx.rf.up ?_).up ?_).up ?_).up ?_).up ?_ <;> exact ⟨rfl, by decide⟩
    have e26 : m3 188 26 = j := by rw [← hm3, q_up_s]
    have r3 : r_R 201 m3 S (m 188 25) (0, -1) := by
      refine ⟨?_, ?_, fun _ => ?_, ⟨by decide, h1, by omega, by decide, by decide⟩, fun i i0 i1 => ?_, by decide, 40, qs201, by omega⟩
      · rw [← hm3, q_up_i (by decide), q_up_i (by decide), q_up_i (by decide), q_up_i (by decide), q_up_s, q_up_i (by decide), q_up_i (by decide), q_up_i (by decide), q_up_s]; omega
      · rw [← hm3, q_up_i (by decide), q_up_s]
      · rw [← hm3, q_up_i (by decide), q_up_i (by decide), q_up_s]
      · rw [F 201 i (by unfold x_lf; omega)]; exact hS i i0 i1
    have cT3 := cT.fr F (by unfold x_lf; omega)
    have cW3 := cW.fr F (by unfold x_lf; omega)
    have tj := t.2 j hj.1 hj.2
    have e192 : m3 192 j = T.2.1 j := cT3.2.2.1 j hj.1 hj.2
    have H : l_He m3 (l_eA T A j) := by
      intro _
      rw [e26, e192]
      refine ⟨by omega, by omega, fun d d0 d1 => ?_, fun i i0 i1 => ?_⟩
      · have : m3 197 d = A.2.2.1 d := cW3.2.2.1 d d0 d1
        rw [this]; exact v.2.2.1 d d0 d1
      · have a10 : m3 188 10 = A.2.2.2.1 := cW3.2.2.2.1
        have a190 : m3 190 j = A.1.1 j := (cW3.1.1 j hj.1 hj.2).1
        have a195 : m3 195 j = A.1.2.1 j := (cW3.1.1 j hj.1 hj.2).2
        have a191 : m3 191 j = T.2.2.2.1 j := cT3.2.2.2.2.1 j hj.1 hj.2
        have a189 : m3 189 j = T.1 j := cT3.2.1 j hj.1 hj.2
        have a193 : m3 193 j = T.2.2.1 j := cT3.2.2.2.1 j hj.1 hj.2
        have as : g_s (fun k => m3 197 (6 * T.2.1 j + k)) 6 = g_s (fun k => A.2.2.1 (6 * T.2.1 j + k)) 6 := g_s_en (fun k k0 k1 => cW3.2.2.1 _ (by omega) (by omega))
        unfold l_env l_eA
        rw [e26, e192, a10, a190, a195, a191, a189, a193, as]
    have K := ((rl_lp (b := 201) (S := S) (lm := m 188 25) (e := l_eA T A j) (l_eA_in t v hB hj) 325).2.2.2 325 (Nat.le_refl _)) 0 (0, -1) m3 70 (by decide) (by decide) r3 h2 H (by show 8 * (m 188 25 - 0) + 5 ≤ ((325 : Nat) : Int); omega) (by show 4 * (4 - 0) + (m 188 25 - 0) + 14 ≤ ((70 : Nat) : Int); omega)
    rw [hp] at K
    refine K.post (fun r m4 q => ⟨?_, q.2.2⟩)
    have hne : C ≠ [] := fun y => z (h3.mpr y)
    unfold l_val
    rw [if_neg hne]
    exact q.2.1 rfl (by rw [e26]; omega)
  · rintro z _ m2 rfl _ r3 m3 ⟨e, f⟩ _
    refine ⟨e, q_fx.tr ?_ (f.mono (by intro c i; unfold x_rM x_lf; omega))⟩
    refine ((((q_fx.rf.up ?_).up ?_).up ?_).up ?_).up ?_ <;> exact ⟨rfl, by decide⟩
abbrev a_wok (n : Nat) (T : a_T) (A : a_W) (C : List Int) (j v : Int) : Prop := (0 ≤ j ∧ j < n) ∧ (1 ≤ v ∧ v ≤ 99) ∧ A.2.2.2.2 ≠ A.2.2.2.1 ∧ l_val C T A j ≠ 0
def a_wax (A : a_W) (j v : Int) : a_W := ((A.1.1, fun i => if i = j then v else A.1.2.1 i, A.1.2.2), A.2.1, A.2.2.1, A.2.2.2.1, A.2.2.2.1)
theorem a_V.wax {B : Int} {n : Nat} {c : Int → Int} {A : a_W} (v : a_V B n c A) {j w : Int} (hw : 1 ≤ w ∧ w ≤ 99) : a_V B n c (a_wax A j w) := by
  obtain ⟨a, r, b, d, f, g, h1, h2, h3, h4⟩ := v
  refine ⟨fun i i0 i1 => ?_, r, b, d, f, g, h1, h2, by show -1 ≤ A.2.2.2.1; omega, by show A.2.2.2.1 ≤ A.2.2.2.1; omega⟩
  have q := a i i0 i1
  refine ⟨q.1, q.2.1, ?_, ?_⟩
  · show 0 ≤ (if i = j then w else A.1.2.1 i); split <;> omega
  · show (if i = j then w else A.1.2.1 i) ≤ 99; split <;> omega
abbrev x_wC (c i : Int) : Prop := c = 9 ∨ (c = 5 ∧ i = 9) ∨ c = 152 ∨ c = 153 ∨ x_Cr c i
abbrev x_wM (c i : Int) : Prop := c = 195 ∨ (c = 188 ∧ (i = 12 ∨ i = 17)) ∨ x_lf c i ∨ x_Mr c i
