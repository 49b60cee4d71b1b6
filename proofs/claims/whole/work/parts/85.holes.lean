/-! ===== holes, explains, secret ===== -/
def a_ho (T : a_T) (j w : Int) : Int → Int := fun i => if i = j then w else T.2.2.2.1 i
theorem a_ho_ok {B : Int} {n : Nat} {T : a_T} {A : a_W} (t : a_TV n T) (v : a_V B n T.1 A) {j w : Int} (hw : 0 ≤ w ∧ w ≤ 9) : f_OK n T.2.2.2.2 T.1 (a_ho T j w) (a_x0 A) := by
  have ok := a_OK0 t v
  refine ⟨ok.1, fun i a c => ?_⟩
  have z := ok.2 i a c
  have e : 0 ≤ a_ho T j w i ∧ a_ho T j w i ≤ 9 := by
    show 0 ≤ (if i = j then w else T.2.2.2.1 i) ∧ (if i = j then w else T.2.2.2.1 i) ≤ 9
    split
    · exact hw
    · exact ⟨z.2.2.2.1, z.2.2.2.2.1⟩
  exact ⟨z.1, z.2.1, z.2.2.1, e.1, e.2, z.2.2.2.2.2.1, z.2.2.2.2.2.2.1, z.2.2.2.2.2.2.2.1, z.2.2.2.2.2.2.2.2⟩
def a_hw (n : Nat) (T : a_T) (A : a_W) (S : a_S) (j w : Int) : Prop := a_so S (fun v => f_it n T.2.2.2.2 T.1 (a_ho T j w) v (a_x0 A))
def a_sc (n : Nat) (T : a_T) (A : a_W) (S : a_S) (j w : Int) : Prop := a_so S (fun v => f_it n T.2.2.2.2 T.1 T.2.2.2.1 v (a_xa A j w))
theorem a_bool (P : Int → Int → Prop) : ∃ p : Int → Int → Bool, ∀ j w, p j w = true ↔ P j w := ⟨fun j w => @decide (P j w) (Classical.propDecidable _), fun j w => by simp⟩
theorem f_c0.ho {n : Nat} {m : qm} {u c : Int → Int} {T : a_T} {x : f_S} (g : f_c0 n m u c T.2.2.2.1 x) {j w : Int} : f_c0 n (q_up m 28 j w) u c (a_ho T j w) x := by
  obtain ⟨g1, g2, g3, g4, g5, g6⟩ := g
  have fu : q_fx (fun c i => c = 28 ∧ i = j) m (q_up m 28 j w) := q_fx.rf.up ⟨rfl, rfl⟩
  refine ⟨(fu _ _ (by omega)).trans g1, (fu _ _ (by omega)).trans g2, fun i a b => (fu _ _ (by omega)).trans (g3 i a b), fun i a b => (fu _ _ (by omega)).trans (g4 i a b), fun i a b => ?_, fun i a b => ⟨(fu _ _ (by omega)).trans (g6.1 i a b).1, (fu _ _ (by omega)).trans (g6.1 i a b).2⟩, (fu _ _ (by omega)).trans g6.2⟩
  show _ = if i = j then w else T.2.2.2.1 i
  by_cases hi : i = j
  · subst hi; rw [q_up_s, if_pos rfl]
  · rw [q_up_i hi, if_neg hi]; exact g5 i a b
theorem f_rl.ho {n : Nat} {m : qm} {u c : Int → Int} {T : a_T} {x : f_S} {y : Int} (g : f_rl n m u c T.2.2.2.1 x y) {j w : Int} : f_rl n (q_up m 209 j w) u c (a_ho T j w) x y := by
  obtain ⟨g1, g3, g4, g5, g6⟩ := g
  have fu : q_fx (fun c i => c = 209 ∧ i = j) m (q_up m 209 j w) := q_fx.rf.up ⟨rfl, rfl⟩
  refine ⟨(fu _ _ (by omega)).trans g1, fun i a b => (fu _ _ (by omega)).trans (g3 i a b), fun i a b => (fu _ _ (by omega)).trans (g4 i a b), fun i a b => ?_, fun i a b => ⟨(fu _ _ (by omega)).trans (g6.1 i a b).1, (fu _ _ (by omega)).trans (g6.1 i a b).2⟩, g6.2⟩
  show _ = if i = j then w else T.2.2.2.1 i
  by_cases hi : i = j
  · subst hi; rw [q_up_s, if_pos rfl]
  · rw [q_up_i hi, if_neg hi]; exact g5 i a b
theorem sp_fitsWH {b B : Int} {m : qm} {n : Nat} {T : a_T} {A : a_W} {S : a_S} (cT : c_T m n T) (cW : c_W m 5 n A) (cS : c_S m S) (t : a_TV n T) (v : a_V B n T.1 A) (sv : a_SV n S) {j w : Int} (hj : 0 ≤ j ∧ j < n) (hw : 0 ≤ w ∧ w ≤ 9) : q_Ev yX11_fitsWithHole cX11_fitsWithHole 3 (some .boolean) 5 0 0 [(2, 0), (0, j), (0, w)] (q_sh0, q_rb b, m) (qK (q_rb b) (fun r m' => ((r = 1 ∧ a_hw n T A S j w) ∨ (r = 0 ∧ ¬ a_hw n T A S j w)) ∧ q_fx x_f m m')) := by
  have h9 := t.1
  refine q_enter (by decide +kernel) (by simp) (Nat.le_of_ble_eq_true rfl) ?_
  refine bkX11_fitsWithHole_0 (P2 := fun _ m1 r m' => ((r = 1 ∧ a_hw n T A S j w) ∨ (r = 0 ∧ ¬ a_hw n T A S j w)) ∧ q_fx x_f m m') (sp_startW cT cW h9) (fun _ _ _ _ => by omega) ?_ (fun _ _ _ _ r m' h _ => by have := h.1; omega) (fun _ _ _ _ r m' h _ => h)
  rintro r1 m1 ⟨g, -, f1⟩ _
  have f2 : q_fx x_f m (q_up m1 28 j w) := f1.up (by unfold x_f; omega)
  exact (sp_fit (cS.fr f2 (by unfold x_f; omega)) sv h9 (g.ho.cl (a_ho_ok t v hw)) (a_ho_ok t v hw) rfl).post (fun r m' z => ⟨z.1, f2.tr z.2⟩)
theorem sp_isSoWith {b B : Int} {m : qm} {n : Nat} {T : a_T} {A : a_W} {S : a_S} (cT : r_T m n T) (cW : r_W m n A) (cS : r_S m S) (t : a_TV n T) (v : a_V B n T.1 A) (sv : a_SV n S) {j w : Int} (hj : 0 ≤ j ∧ j < n) (hw : 0 ≤ w ∧ w ≤ 9) : q_Ev yX12_isSoWith cX12_isSoWith 3 (some .boolean) 3 0 0 [(2, 188), (0, j), (0, w)] (q_sh0, q_rb b, m) (qK (q_rb b) (fun r m' => ((r = 1 ∧ a_hw n T A S j w) ∨ (r = 0 ∧ ¬ a_hw n T A S j w)) ∧ q_fx x_g m m')) := by
  have h9 := t.1
  refine q_enter (by decide +kernel) (by simp) (Nat.le_of_ble_eq_true rfl) ?_
  refine bkX12_isSoWith_0 (P2 := fun _ m1 r m' => ((r = 1 ∧ a_hw n T A S j w) ∨ (r = 0 ∧ ¬ a_hw n T A S j w)) ∧ q_fx x_g m m') (sp_beginW cT cW h9) (fun _ _ _ _ => by omega) ?_ (fun _ _ _ _ r m' h _ => by have := h.1; omega) (fun _ _ _ _ r m' h _ => h)
  rintro r1 m1 ⟨g, f1⟩ _
  have f2 : q_fx x_g m (q_up m1 209 j w) := (f1.mono (fun c i z => by unfold x_g; omega)).up (by unfold x_g; omega)
  exact (sp_isSo (cS.fr f2 (by unfold x_g; omega)) sv h9 g.ho (a_ho_ok t v hw)).post (fun r m' z => ⟨z.1, f2.tr z.2⟩)
theorem op_holes {LW : qm → Prop} (hL : i_Lf LW) {k : Nat} {b : Int} {m : qm} (I : i_I LW k m) (j : Int) :
    q_Ev yX11_holes cX11_holes 4 (some .int) 6 0 0 [(2, 0), (0, j)] (q_sh0, q_rb b, m) (qK (q_rb b) (fun r m1 => q_Ev yX12_holes cX12_holes 4 (some .int) 4 0 0 [(2, 188), (0, j)] (q_sh0, q_rb b, m1) (i_O LW (k + 1) r))) := by
  obtain ⟨n, en, T1, T3, W1, W3, K, S1, S3, KS⟩ := i_knowS I
  have h9 := T3.1
  have e0 := T1.1
  generalize hA : a_of m = A at W1 W3 K
  generalize hT : a_Tof m = T at T1 T3 W3 K
  generalize hS : a_Sof m = S at S1 S3 KS
  obtain ⟨p, hp⟩ := a_bool (a_hw n T A S)
  by_cases ok : 0 ≤ j ∧ j < n
  · refine i_joinT hL I en hA (R := a_bt (p j) 10) (o := none) (fun l z => by cases z) ?_ ?_
    · refine q_enter (by decide +kernel) (by simp) (Nat.le_of_ble_eq_true rfl) ?_
      refine bkX11_holes_0 (fun _ => ?_) (fun z => absurd (by omega) z)
      refine q_for' (A := fun i (x : Int) m' => q_At yX11_holes cX11_holes 4 (some .int) 6 0 0 _ 14 [(2, 0), (0, j), (0, x), (0, i)] [] (q_sh0, q_rb b, m')) (fun i x m' => ∃ y : Nat, i = y ∧ y ≤ 10 ∧ x = a_bt (p j) y ∧ q_fx x_f m m') 9 ?_ ?_ 0 0 m ⟨0, rfl, by omega, rfl, q_fx.rf⟩
      · rintro i x m' hi ⟨y, rfl, hy, rfl, fx⟩
        have : y = 10 := by omega
        subst this
        exact bkX11_holes_14 (P2 := fun _ _ => True) (fun _ => ⟨rfl, fx.mono x_f_tC, fx _ _ (by unfold x_f; omega), fun i => fx _ _ (by unfold x_f; omega)⟩) (fun z => absurd z (by omega)) (fun z => absurd z (by omega)) (fun z => absurd z (by omega)) (fun z => absurd z (by omega)) (fun z => absurd z (by omega))
      · rintro i x m' hi ⟨y, rfl, hy, rfl, fx⟩ ih
        refine bkX11_holes_14 (fun z => absurd z (by omega)) (fun _ => sp_fitsWH (T1.fr fx (by unfold x_f; omega)) (W1.fr fx (by unfold x_f w_z; omega)) (S1.fr fx (by unfold x_f; omega)) T3 W3 S3 ok ⟨by omega, by omega⟩) (fun _ _ _ _ _ _ => q_in_of (by omega) (by omega)) ?_ (fun _ _ _ _ _ _ => q_in_of (by omega) (by omega)) ?_
        · rintro _ r2 m2 ⟨h2, f2⟩ _ z
          have : ¬ p j y = true := fun q => by
            rcases h2 with h2 | h2
            · omega
            · exact h2.2 ((hp j y).mp q)
          exact ih _ m2 ⟨y + 1, by omega, by omega, by simp only [a_bt]; rw [if_neg this], fx.tr f2⟩
        · rintro _ r2 m2 ⟨h2, f2⟩ _ z
          have : p j y = true := by
            rcases h2 with h2 | h2
            · exact (hp j y).mpr h2.2
            · exact absurd h2.1 z
          exact ih _ m2 ⟨y + 1, by omega, by omega, by simp only [a_bt]; rw [if_pos this], fx.tr f2⟩
    · intro m1 f1
      obtain ⟨T2, W2⟩ := K m1 f1
      have S2 := KS m1 f1
      have e1 := T2.1
      refine q_enter (by decide +kernel) (by simp) (Nat.le_of_ble_eq_true rfl) ?_
      refine bkX12_holes_0 (q_in_of (by omega) (by omega)) (fun _ => ?_) (fun z => absurd (by omega) z)
      refine q_for' (A := fun i (x : Int) m' => q_At yX12_holes cX12_holes 4 (some .int) 4 0 0 _ 19 [(2, 188), (0, j), (0, x), (0, i)] [] (q_sh0, q_rb b, m')) (fun i x m' => ∃ y : Nat, i = y ∧ y ≤ 10 ∧ x = a_bt (p j) y ∧ q_fx x_g7 m1 m') 9 ?_ ?_ 0 0 _ ⟨0, rfl, by omega, rfl, q_fx.rf.up (Or.inr ⟨rfl, rfl⟩)⟩
      · rintro i x m' hi ⟨y, rfl, hy, rfl, fx⟩
        have : y = 10 := by omega
        subst this
        exact bkX12_holes_19 (P2 := fun _ _ => True) (fun _ => ⟨rfl, fx.mono x_g7_tM, W2.fr fx (by unfold x_g7 x_g; omega), fx _ _ (by unfold x_g7 x_g; omega), fun i => fx _ _ (by unfold x_g7 x_g; omega)⟩) (fun z => absurd z (by omega)) (fun z => absurd z (by omega)) (fun z => absurd z (by omega)) (fun z => absurd z (by omega)) (fun z => absurd z (by omega))
      · rintro i x m' hi ⟨y, rfl, hy, rfl, fx⟩ ih
        refine bkX12_holes_19 (fun z => absurd z (by omega)) (fun _ => sp_isSoWith (T2.fr fx (by unfold x_g7 x_g; omega)) (W2.fr fx (by unfold x_g7 x_g; omega)) (S2.fr fx (by unfold x_g7 x_g; omega)) T3 W3 S3 ok ⟨by omega, by omega⟩) (fun _ _ _ _ _ _ => q_in_of (by omega) (by omega)) ?_ (fun _ _ _ _ _ _ => q_in_of (by omega) (by omega)) ?_
        · rintro _ r2 m2 ⟨h2, f2⟩ _ z
          have : ¬ p j y = true := fun q => by
            rcases h2 with h2 | h2
            · omega
            · exact h2.2 ((hp j y).mp q)
          exact ih _ m2 ⟨y + 1, by omega, by omega, by rw [q_or0 (a_bt_in y)]; simp only [a_bt]; rw [if_neg this], fx.tr (f2.mono (fun c i z => Or.inl z))⟩
        · rintro _ r2 m2 ⟨h2, f2⟩ _ z
          have : p j y = true := by
            rcases h2 with h2 | h2
            · exact (hp j y).mpr h2.2
            · exact absurd h2.1 z
          exact ih _ m2 ⟨y + 1, by omega, by omega, by simp only [a_bt]; rw [if_pos this], fx.tr (f2.mono (fun c i z => Or.inl z))⟩
  · refine i_joinT hL I en hA (R := -1) (o := none) (fun l z => by cases z) ?_ ?_
    · refine q_enter (by decide +kernel) (by simp) (Nat.le_of_ble_eq_true rfl) ?_
      exact bkX11_holes_0 (fun z => absurd (by omega) ok) (fun _ => ⟨rfl, q_fx.rf, rfl, fun _ => rfl⟩)
    · intro m1 f1
      have K1 := K m1 f1
      have e1 := K1.1.1
      refine q_enter (by decide +kernel) (by simp) (Nat.le_of_ble_eq_true rfl) ?_
      exact bkX12_holes_0 (q_in_of (by omega) (by omega)) (fun z => absurd (by omega) ok) (fun _ => ⟨rfl, r_no (m := m) K1⟩)
/-! pairs that were found: how many, and the first -/
def a_in (p : Int → Bool) (j : Int) : Nat → Int → Int × List Int → Int × List Int
  | 0, _, s => s
  | f + 1, w, s => a_in p j f (w + 1) (if p w = true then (s.1 + 1, if s.1 = 0 then s.2 ++ [j, w] else s.2) else s)
def a_out (p : Int → Int → Bool) (fl : Int → Nat) (w0 : Int) : Nat → Int × List Int
  | 0 => (0, [])
  | k + 1 => a_in (p k) k (fl k) w0 (a_out p fl w0 k)
def a_sok (s : Int × List Int) (B : Int) : Prop := 0 ≤ s.1 ∧ s.1 ≤ B ∧ s.2.length ≤ 2 ∧ (s.1 = 0 → s.2 = [])
theorem a_sok.st {s : Int × List Int} {B : Int} (h : a_sok s B) (p : Int → Bool) (j w : Int) : a_sok (if p w = true then (s.1 + 1, if s.1 = 0 then s.2 ++ [j, w] else s.2) else s) (B + 1) := by
  obtain ⟨a, b, c, d⟩ := h
  split
  · refine ⟨by show 0 ≤ s.1 + 1; omega, by show s.1 + 1 ≤ B + 1; omega, ?_, fun z => absurd (show s.1 + 1 = 0 from z) (by omega)⟩
    show (if s.1 = 0 then s.2 ++ [j, w] else s.2).length ≤ 2
    split
    · rename_i h; rw [d h]; simp
    · exact c
  · exact ⟨a, by omega, c, d⟩
theorem a_sok.in_ {p : Int → Bool} {j : Int} : ∀ (f : Nat) (w : Int) (s : Int × List Int) (B : Int), a_sok s B → a_sok (a_in p j f w s) (B + f)
  | 0, _, s, B, h => by simp only [a_in]; simpa using h
  | f + 1, w, s, B, h => by
    have := a_sok.in_ (p := p) (j := j) f (w + 1) _ _ (h.st p j w)
    simp only [a_in]
    rw [show B + ((f + 1 : Nat) : Int) = B + 1 + f by omega]
    exact this
theorem a_out_ok {p : Int → Int → Bool} {fl : Int → Nat} {w0 : Int} {n : Nat} (hf : ∀ i : Int, 0 ≤ i → i < n → fl i ≤ 60) : ∀ k : Nat, k ≤ n → a_sok (a_out p fl w0 k) (60 * k)
  | 0, _ => ⟨by simp [a_out], by simp [a_out], by simp [a_out], fun _ => rfl⟩
  | k + 1, hk => by
    have h := a_sok.in_ (p := p k) (j := k) (fl k) w0 _ _ (a_out_ok (p := p) (w0 := w0) hf k (by omega))
    have := hf k (by omega) (by omega)
    exact ⟨h.1, by have := h.2.1; simp only [a_out]; omega, h.2.2.1, h.2.2.2⟩
theorem i_rw.fr {m m' m'' : qm} {l : List Int} (h : i_rw m l m') (f : q_fx x_f m' m'') : i_rw m l m'' := ⟨h.1.tr (f.mono (fun c i z => by unfold x_f at z; unfold x_F; omega)), (f _ _ (by unfold x_f; omega)).trans h.2.1, fun i hi => (f _ _ (by unfold x_f; omega)).trans (h.2.2 i hi)⟩
theorem i_mw.fr {m m' m'' : qm} {l : List Int} (h : i_mw m l m') (f : q_fx x_g m' m'') : i_mw m l m'' := ⟨h.1.tr (f.mono (fun c i z => by unfold x_g at z; unfold x_G; omega)), (f _ _ (by unfold x_g; omega)).trans h.2.1, fun i hi => (f _ _ (by unfold x_g; omega)).trans (h.2.2 i hi)⟩
theorem i_rw.tell2 {m m' : qm} {l : List Int} {v w : Int} (h : i_rw m l m') : i_rw m (l ++ [v, w]) (q_up (q_up (q_up (q_up m' 169 (m' 0 16) v) 0 16 (m' 0 16 + 1)) 169 (m' 0 16 + 1) w) 0 16 (m' 0 16 + 1 + 1)) := by
  have h2 := (h.tell (v := v)).tell (v := w)
  rw [show (q_up (q_up m' 169 (m' 0 16) v) 0 16 (m' 0 16 + 1)) 0 16 = m' 0 16 + 1 from q_up_s, List.append_assoc] at h2
  exact h2
theorem i_mw.tell2 {m m' : qm} {l : List Int} {v w : Int} (h : i_mw m l m') : i_mw m (l ++ [v, w]) (q_up (q_up (q_up (q_up m' 199 (m' 188 16) v) 188 16 (m' 188 16 + 1)) 199 (m' 188 16 + 1) w) 188 16 (m' 188 16 + 1 + 1)) := by
  have h2 := (h.tell (v := v)).tell (v := w)
  rw [show (q_up (q_up m' 199 (m' 188 16) v) 188 16 (m' 188 16 + 1)) 188 16 = m' 188 16 + 1 from q_up_s, List.append_assoc] at h2
  exact h2
