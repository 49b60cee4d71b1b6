/-! ===== the reference reads a LAW, and says what it is ===== -/
def l_env (m : qm) (i : Int) : Int := if i = 0 then m 188 26 else if i = 1 then m 188 10 else if i = 2 then q_oirem (m 188 10) 12 else if i = 3 then m 190 (m 188 26) else if i = 4 then m 191 (m 188 26) else if i = 5 then m 189 (m 188 26) else if i = 6 then m 192 (m 188 26) else if i = 7 then m 193 (m 188 26) else if i = 8 then m 195 (m 188 26) else if i = 9 then g_s (fun k => m 197 (6 * m 192 (m 188 26) + k)) 6 else 0
def l_He (m : qm) (e : Int → Int) : Prop := m 188 26 ≠ -1 → (0 ≤ m 188 26 ∧ m 188 26 < 9) ∧ (0 ≤ m 192 (m 188 26) ∧ m 192 (m 188 26) ≤ 5) ∧ (∀ d, 0 ≤ d → d < 36 → 0 ≤ m 197 d ∧ m 197 d ≤ 999) ∧ ∀ i, 0 ≤ i → i < 10 → e i = l_env m i
theorem l_env_fr {m m' : qm} {X : Int → Int → Prop} (hf : q_fx X m m') (hd : ∀ c i, (189 ≤ c ∧ c ≤ 197) ∨ (c = 188 ∧ (i = 10 ∨ i = 26)) → ¬ X c i) (i : Int) : l_env m' i = l_env m i := by
  have e : ∀ c i, (189 ≤ c ∧ c ≤ 197) ∨ (c = 188 ∧ (i = 10 ∨ i = 26)) → m' c i = m c i := fun c i z => hf c i (hd c i z)
  unfold l_env
  rw [e 188 26 (by omega), e 188 10 (by omega), e 190 _ (by omega), e 191 _ (by omega), e 189 _ (by omega), e 192 _ (by omega), e 193 _ (by omega), e 195 _ (by omega), show (fun k => m' 197 (6 * m 192 (m 188 26) + k)) = (fun k => m 197 (6 * m 192 (m 188 26) + k)) from funext fun k => e 197 _ (by omega)]
theorem l_He.fr {m m' : qm} {e : Int → Int} {X : Int → Int → Prop} (h : l_He m e) (hf : q_fx X m m') (hd : ∀ c i, (189 ≤ c ∧ c ≤ 197) ∨ (c = 188 ∧ (i = 10 ∨ i = 26)) → ¬ X c i) : l_He m' e := by
  have e : ∀ c i, (189 ≤ c ∧ c ≤ 197) ∨ (c = 188 ∧ (i = 10 ∨ i = 26)) → m' c i = m c i := fun c i z => hf c i (hd c i z)
  intro z
  rw [e 188 26 (by omega)] at z
  obtain ⟨a, b, c, d⟩ := h z
  rw [e 188 26 (by omega), e 192 _ (by omega)]
  exact ⟨a, b, fun d d0 d1 => by rw [e 197 _ (by omega)]; exact c d d0 d1, fun i i0 i1 => by rw [l_env_fr hf hd]; exact d i i0 i1⟩
theorem sp_owedByM {b v : Int} {m : qm} (hv : 0 ≤ v ∧ v ≤ 5) (hd : ∀ d, 0 ≤ d → d < 36 → 0 ≤ m 197 d ∧ m 197 d ≤ 999) : q_Ev yX12_owedBy cX12_owedBy 4 (some .int) 1 0 0 [(2, 188), (0, v)] (q_sh0, q_rb b, m) (qK (q_rb b) (fun r m' => m' = m ∧ r = g_s (fun k => m 197 (6 * v + k)) 6)) := by
  refine q_enter (by decide +kernel) (by simp) (Nat.le_of_ble_eq_true rfl) ?_
  have go : ∀ (d i : Nat), i + d = 6 → 0 ≤ g_s (fun k => m 197 (6 * v + k)) i → g_s (fun k => m 197 (6 * v + k)) i ≤ 999 * i → q_At yX12_owedBy cX12_owedBy 4 (some .int) 1 0 0 (qK (q_rb b) (fun r m' => m' = m ∧ r = g_s (fun k => m 197 (6 * v + k)) 6)) 4 [(2, 188), (0, v), (0, g_s (fun k => m 197 (6 * v + k)) i), (0, (i : Int))] [] (q_sh0, q_rb b, m) := by
    intro d
    induction d with
    | zero =>
      intro i hi h0 h1
      obtain rfl : i = 6 := by omega
      exact bkX12_owedBy_4 (fun _ => ⟨rfl, rfl⟩) (fun z => absurd z (by omega)) (fun z => absurd z (by omega))
    | succ d ih =>
      intro i hi h0 h1
      have q := hd (6 * v + i) (by omega) (by omega)
      have e : g_s (fun k => m 197 (6 * v + k)) (i + 1) = g_s (fun k => m 197 (6 * v + k)) i + m 197 (6 * v + i) := rfl
      refine bkX12_owedBy_4 (fun z => absurd z (by omega)) (fun _ => ⟨q_in_of (by omega) (by omega), q_in_of (by omega) (by omega), by omega, q_in_of (by omega) (by omega), q_in_of (by omega) (by omega)⟩) (fun _ => ?_)
      rw [← e]
      exact ih (i + 1) (by omega) (by omega) (by omega)
  exact bkX12_owedBy_0 (go 6 0 (by omega) (Int.le_refl 0) (Int.le_refl 0))
theorem sp_letterM {b v : Int} {m : qm} {e : Int → Int} (h : l_He m e) (hm : m 188 26 ≠ -1) (hv : 0 ≤ l_ix v) : q_Ev yX12_letter cX12_letter 3 (some .int) 2 0 0 [(2, 188), (0, v)] (q_sh0, q_rb b, m) (qK (q_rb b) (fun r m' => m' = m ∧ r = e (l_ix v))) := by
  obtain ⟨hj, ho, hd, he⟩ := h hm
  have hr := l_ix_r v
  rw [he (l_ix v) hv (by omega)]
  have own := sp_owedByM (b := b) (m := m) ho hd
  refine q_enter (by decide +kernel) (by simp) (Nat.le_of_ble_eq_true rfl) ?_
  refine bkX12_letter_0 (fun z => by subst z; first | exact ⟨rfl, rfl⟩ | exact absurd hv (by decide)) (by intros; exact hj) (fun _ z => by subst z; first | exact ⟨rfl, rfl⟩ | exact absurd hv (by decide)) (by intros; exact hj) (by intros; exact own) (fun _ _ z _ _ q _ => by subst z; first | exact ⟨rfl, rfl⟩ | exact q | exact absurd hv (by decide)) (by intros; exact hj) (by intros; exact own) (fun _ _ _ z _ _ q _ => by subst z; first | exact ⟨rfl, rfl⟩ | exact q | exact absurd hv (by decide)) (by intros; exact hj) (by intros; exact own) (fun _ _ _ _ z _ _ q _ => by subst z; first | exact ⟨rfl, rfl⟩ | exact q | exact absurd hv (by decide)) (by intros; exact hj) (fun _ _ _ _ _ z => by subst z; first | exact ⟨rfl, rfl⟩ | exact absurd hv (by decide)) (by intros; exact hj) (fun _ _ _ _ _ _ z => by subst z; first | exact ⟨rfl, rfl⟩ | exact absurd hv (by decide)) (by intros; exact hj) (by intros; exact own) (fun _ _ _ _ _ _ _ z _ _ q _ => by subst z; first | exact ⟨rfl, rfl⟩ | exact q | exact absurd hv (by decide)) (fun _ _ _ _ _ _ _ _ z => by subst z; first | exact ⟨rfl, rfl⟩ | exact absurd hv (by decide)) (by intros; exact hj) (by intros; exact own) (fun _ _ _ _ _ _ _ _ _ z _ _ q _ => by subst z; first | exact ⟨rfl, rfl⟩ | exact q | exact absurd hv (by decide)) (by intros; exact hj) (fun _ _ _ _ _ _ _ _ _ _ z => by subst z; first | exact ⟨rfl, rfl⟩ | exact absurd hv (by decide)) (by intros; exact hj) (by intros; exact own) (fun _ _ _ _ _ _ _ _ _ _ _ z _ _ q _ => by subst z; first | exact ⟨rfl, rfl⟩ | exact q | exact absurd hv (by decide)) (by intros; exact hj) (by intros; exact own) (fun _ _ _ _ _ _ _ _ _ _ _ _ z _ _ q _ => by subst z; first | exact ⟨rfl, rfl⟩ | exact q | exact absurd hv (by decide)) (by intros; exact hj) (fun _ _ _ _ _ _ _ _ _ _ _ _ _ z => by subst z; first | exact ⟨rfl, rfl⟩ | exact absurd hv (by decide)) (by intros; exact hj) (by intros; exact own) (fun _ _ _ _ _ _ _ _ _ _ _ _ _ _ z _ _ q _ => by subst z; first | exact ⟨rfl, rfl⟩ | exact q | exact absurd hv (by decide)) (by intros; exact hj) (by intros; exact own) (fun _ _ _ _ _ _ _ _ _ _ _ _ _ _ _ z _ _ q _ => by subst z; first | exact ⟨rfl, rfl⟩ | exact q | exact absurd hv (by decide)) (by intros; exact hj) (by intros; exact own) (fun _ _ _ _ _ _ _ _ _ _ _ _ _ _ _ _ z _ _ q _ => by subst z; first | exact ⟨rfl, rfl⟩ | exact q | exact absurd hv (by decide)) (by intros; exact hj) (by intros; exact own) (fun _ _ _ _ _ _ _ _ _ _ _ _ _ _ _ _ _ z _ _ q _ => by subst z; first | exact ⟨rfl, rfl⟩ | exact q | exact absurd hv (by decide)) (fun _ _ _ _ _ _ _ _ _ _ _ _ _ _ _ _ _ _ z => by subst z; first | exact ⟨rfl, rfl⟩ | exact absurd hv (by decide)) (by intros; exact hj) (by intros; exact own) (fun _ _ _ _ _ _ _ _ _ _ _ _ _ _ _ _ _ _ _ z _ _ q _ => by subst z; first | exact ⟨rfl, rfl⟩ | exact q | exact absurd hv (by decide)) (by intros; exact hj) (by intros; exact own) (fun _ _ _ _ _ _ _ _ _ _ _ _ _ _ _ _ _ _ _ _ z _ _ q _ => by subst z; first | exact ⟨rfl, rfl⟩ | exact q | exact absurd hv (by decide)) (by intros; exact hj) (fun _ _ _ _ _ _ _ _ _ _ _ _ _ _ _ _ _ _ _ _ _ z => by subst z; first | exact ⟨rfl, rfl⟩ | exact absurd hv (by decide)) (by intros; exact hj) (by intros; exact own) (fun c0 c1 c2 c3 c4 c5 c6 c7 c8 c9 c10 c11 c12 c13 c14 c15 c16 c17 c18 c19 c20 c21 _ _ q _ => by exfalso; unfold l_ix at hv; rw [if_neg c8, if_neg c0, if_neg c18, if_neg c10, if_neg c6, if_neg c1, if_neg c13, if_neg c5, if_neg c21, if_neg c2] at hv; omega)
def r_Q (b : Int) (S : Int → Int) (lm : Int) (e : Int → Int) (R : a_R × List Int) (m : qm) (r : Int) (m' : qm) : Prop := r_R b m' S lm R.1 ∧ (R.1.2 = -1 → m 188 26 ≠ -1 → r = c_val e R.2) ∧ q_fx x_rM m m'
def r_E (b : Int) (S : Int → Int) (lm : Int) (e : Int → Int) (f md : Nat) (K : Int) (y : MethodName) (cc : ByteArray) (nL : Nat) : Prop := ∀ (w : Int) (s : a_R) (m : qm) (d : Nat), 0 ≤ w → w ≤ 4 → r_R b m S lm s → lm ≤ 40 → l_He m e → 8 * (lm - s.1) + l_rk md ≤ f → 4 * (4 - w) + (lm - s.1) + K ≤ d → q_Ev y cc nL (some .int) d 0 0 [(2, 188), (0, w)] (q_sh0, q_rb b, m) (qK (q_rb b) (fun r m' => r_Q b S lm e (l_p S lm f md w s) m r m'))
section LAWR
variable {b : Int} {S : Int → Int} {lm : Int} {e : Int → Int}
theorem x_rM_H : ∀ c i, (189 ≤ c ∧ c ≤ 197) ∨ (c = 188 ∧ (i = 10 ∨ i = 26)) → ¬ x_rM c i := by intro c i; unfold x_rM; omega
theorem r_R.nx {m : qm} {s : a_R} (h : r_R b m S lm s) (hs : s.2 = -1) (hl : s.1 < lm) : r_R b (q_up m 188 21 (m 188 21 + 1)) S lm (s.1 + 1, s.2) ∧ q_fx x_rM m (q_up m 188 21 (m 188 21 + 1)) := by
  have f : q_fx x_rM m (q_up m 188 21 (m 188 21 + 1)) := q_fx.rf.up (by unfold x_rM; omega)
  exact ⟨h.set f h.b8 (fun _ => by rw [q_up_s, h.2.2.1 hs]) ((q_up_i (by decide)).trans h.2.1) (h.2.2.2.1.nx (S := S) hl), f⟩
theorem rl_thing (he : ∀ i, q_in32 (e i)) {f : Nat} (hT : ∀ g, g ≤ f → r_E b S lm e g 0 11 yX12_thing cX12_thing 4) (hC : ∀ g, g ≤ f → r_E b S lm e g 5 14 yX12_held cX12_held 3) : r_E b S lm e (f + 1) 0 11 yX12_thing cX12_thing 4 := by
  intro w s m d w0 w4 c h40 hH hm hdd
  have hm : 8 * (lm - s.1) + 2 ≤ (f : Int) + 1 := by have : l_rk 0 = 2 := rfl; omega
  have ok := c.2.2.2.1
  have k2 := ok.2.1
  obtain ⟨dd, rfl⟩ : ∃ dd, d = dd + 1 := ⟨d - 1, by omega⟩
  obtain ⟨g, rfl⟩ : ∃ g, f = g + 1 := ⟨f - 1, by omega⟩
  have bare : ¬ t_is S lm s 45 → l_p S lm (g + 1 + 1) 0 w s = l_p S lm (g + 1) 7 w s := fun n => by rw [l_p0, if_neg n]
  have e4 := c.2.1
  refine q_enter (by decide +kernel) (by simp) (Nat.le_of_ble_eq_true rfl) ?_
  -- the letter
  have at158 : ∀ v2 m4, s.2 = -1 → r_R b m4 S lm s → q_fx x_rM m m4 → ¬ t_is S lm s 45 → ¬ (t_is S lm s 40 ∧ w < 4) → ¬ t_dg S lm s → t_is S lm s v2 → 0 ≤ l_ix v2 → q_At yX12_thing cX12_thing 4 (some .int) (dd + 1) 0 0 (qK (q_rb b) (fun r m' => r_Q b S lm e (l_p S lm (g + 1 + 1) 0 w s) m r m')) 158 [(2, 188), (0, w), (0, v2), (4, 0)] [] (q_sh0, q_rb b, m4) := by
    intro v2 m4 hs c4 f4 n45 n40 nd hi hv
    have lt : t_lt S lm s := ⟨hs, hi.2.1, by rw [hi.2.2]; exact hv⟩
    have n := c4.nx hs hi.2.1
    have e21 := c4.2.2.1 hs
    have k1 := ok.1
    have e26 : m4 188 26 = m 188 26 := f4 _ _ (by unfold x_rM; omega)
    have ep : l_p S lm (g + 1 + 1) 0 w s = ((s.1 + 1, s.2), [1000 + l_ix (S s.1)]) := by rw [bare n45, l_p7, if_neg n40, if_neg nd, if_pos lt]
    have H4 := (hH.fr f4 x_rM_H).fr n.2 x_rM_H
    have hv2 : S s.1 = v2 := hi.2.2
    refine bkX12_thing_158 (by omega) (q_in_of (by omega) (by omega)) (fun z => sp_letterM H4 (by rw [q_up_i (by decide)]; exact z) hv) ?_ (fun z => ?_)
    · rintro z r2 m2 ⟨rfl, er⟩ _
      rw [ep]
      refine ⟨n.1, fun _ _ => ?_, f4.tr n.2⟩
      show r2 = c_val e [1000 + l_ix (S s.1)]
      rw [(l_W_let ⟨lt.2.2, by have := (l_ix_r (S s.1)).2; omega⟩).2, hv2]; exact er
    · rw [ep]
      exact ⟨n.1, fun _ y => absurd (e26.symm.trans z) y, f4.tr n.2⟩
  have at67 : ∀ v2 m4, s.2 = -1 → r_R b m4 S lm s → q_fx x_rM m m4 → ¬ t_is S lm s 45 → ¬ (t_is S lm s 40 ∧ w < 4) → (∀ ch, 0 ≤ ch → (v2 = ch ↔ t_is S lm s ch)) → q_At yX12_thing cX12_thing 4 (some .int) (dd + 1) 0 0 (qK (q_rb b) (fun r m' => r_Q b S lm e (l_p S lm (g + 1 + 1) 0 w s) m r m')) 67 [(2, 188), (0, w), (0, v2), (4, 0)] [] (q_sh0, q_rb b, m4) := by
    intro v2 m4 hs c4 f4 n45 n40 hv
    refine bkX12_thing_67 (by omega) (fun z => sp_numM 3 (by decide) c4) ?_ (fun z => ?_)
    · rintro z r2 m2 ⟨c2, e2, f2⟩ _
      have hi := (hv v2 (by omega)).mp rfl
      have dg : t_dg S lm s := ⟨hs, hi.2.1, by have := hi.2.2; omega, by have := hi.2.2; omega⟩
      have v := t_nm_v (S := S) (lm := lm) (k := 3) (s := s) (by decide)
      have et : t_rn S lm 0 999 3 s = (t_nm S lm 3 s).2 := t_ck_in ⟨v.1, by omega⟩
      rw [et] at c2 e2
      rw [bare n45, l_p7, if_neg n40, if_pos dg]
      refine ⟨c2, fun y _ => ?_, f4.tr f2⟩
      show r2 = c_val e [(t_nm S lm 3 s).1]
      rw [(l_W_num (by omega)).2]; exact e2 y
    · have nd : ¬ t_dg S lm s := fun y => z (by have := (hv (S s.1) (by have := y.2.2; omega)).mpr ⟨y.1, y.2.1, rfl⟩; have := y.2.2; omega)
      have go := fun (h0 : 0 ≤ v2) (hx : 0 ≤ l_ix v2) => at158 v2 m4 hs c4 f4 n45 n40 nd ((hv v2 h0).mp rfl) hx
      refine bkX12_thing_88 (by omega) (P11 := fun _ m' => r_R b m' S lm (t_fl s s.1) ∧ q_fx x_rM m4 m') (fun y => go (by omega) (by rw [y]; decide)) (fun _ y => go (by omega) (by rw [y]; decide)) (fun _ _ y => go (by omega) (by rw [y]; decide)) (fun _ _ _ y => go (by omega) (by rw [y]; decide)) (fun _ _ _ _ y => go (by omega) (by rw [y]; decide)) (fun _ _ _ _ _ y => go (by omega) (by rw [y]; decide)) (fun _ _ _ _ _ _ y => go (by omega) (by rw [y]; decide)) (fun _ _ _ _ _ _ _ y => go (by omega) (by rw [y]; decide)) (fun _ _ _ _ _ _ _ _ y => go (by omega) (by rw [y]; decide)) (fun _ _ _ _ _ _ _ _ _ y => go (by omega) (by rw [y]; decide)) (fun _ _ _ _ _ _ _ _ _ _ => ?_) ?_
      · rw [c4.2.2.1 hs]
        exact (sp_faultM c4 (by have := ok.1; omega) (by have := ok.2.2.1; omega)).post (fun _ _ q => ⟨q.1, q.2.mono (by intro c i; unfold x_rM; omega)⟩)
      · rintro y1 y2 y3 y4 y5 y6 y7 y8 y9 y10 r11 m11 ⟨c11, f11⟩ _
        have nl : ¬ t_lt S lm s := by
          intro q
          have h1 := l_ix_let _ q.2.2
          have h2 := (l_ix_r (S s.1)).2
          have h3 := q.2.2
          have hS : 0 ≤ S s.1 := by rw [h1]; exact (l_let_ix _ (by omega)).2.1
          have h4 := (hv (S s.1) hS).mpr ⟨q.1, q.2.1, rfl⟩
          rw [← h4] at h3
          unfold l_ix at h3
          rw [if_neg y1, if_neg y2, if_neg y3, if_neg y4, if_neg y5, if_neg y6, if_neg y7, if_neg y8, if_neg y9, if_neg y10] at h3
          omega
        rw [bare n45, l_p7, if_neg n40, if_neg nd, if_neg nl]
        refine ⟨c11, fun y => ?_, f4.tr f11⟩
        exfalso
        have y : (t_fl s s.1).2 = -1 := y
        rw [t_fl_ok hs] at y
        have := ok.1
        have y : s.1 = -1 := y
        omega
  refine bkX12_thing_0 (by omega) (P4 := fun _ m1 r m' => m' = m1 ∧ (∀ ch, 0 ≤ ch → (r = ch ↔ t_is S lm s ch)) ∧ (r = S s.1 ∨ r < 0)) (P7 := fun _ _ _ m4 r m' => r_Q b S lm e (l_p S lm g 5 (w + 1) (s.1 + 1, s.2)) m r m') (P8 := fun _ _ _ _ _ m7 _ m' => r_R b m' S lm (t_nd S lm 41 (l_p S lm g 5 (w + 1) (s.1 + 1, s.2)).1) ∧ q_fx x_rM m7 m') (P9 := fun _ m1 r m' => r_Q b S lm e (l_p S lm (g + 1) 0 w (s.1 + 1, s.2)) m r m') (sp_passesM c (by decide)) ?_ ?_ ?_ ?_ ?_ ?_ ?_ ?_ ?_ ?_
  · rintro r1 m1 ⟨g1, f1⟩ _ z y
    have g1 := g1.resolve_left (fun y => by omega)
    exact sp_hereM g1.2.2 (by rw [← g1.2.2.2.1]; exact y)
  · rintro r1 m1 ⟨g1, f1⟩ _ z y r4 m4 ⟨rfl, h4, -⟩ _ z4
    have g1 := g1.resolve_left (fun y => by omega)
    exact at67 r4 m4 (by rw [← g1.2.2.2.1]; exact y) g1.2.2 f1 g1.2.1 (fun q => z4 ((h4 40 (by decide)).mpr q.1)) h4
  · rintro r1 m1 ⟨g1, f1⟩ _ z y r4 m4 ⟨rfl, h4, -⟩ _ z4 z5
    have g1 := g1.resolve_left (fun y => by omega)
    exact at67 r4 m4 (by rw [← g1.2.2.2.1]; exact y) g1.2.2 f1 g1.2.1 (fun q => by omega) h4
  · rintro r1 m1 ⟨g1, f1⟩ _ z y r4 m4 ⟨rfl, h4, -⟩ _ z4 z5
    have g1 := g1.resolve_left (fun y => by omega)
    have := g1.2.2.2.2.1 (by rw [← g1.2.2.2.1]; exact y)
    have := ok.1
    exact ⟨q_in_of (by omega) (by omega), q_in_of (by omega) (by omega)⟩
  · rintro r1 m1 ⟨g1, f1⟩ _ z y r4 m4 ⟨rfl, h4, -⟩ _ z4 z5
    have g1 := g1.resolve_left (fun y => by omega)
    have hi := (h4 40 (by decide)).mp z4
    have n := g1.2.2.nx hi.1 hi.2.1
    refine (hC g (by omega) (w + 1) (s.1 + 1, s.2) _ dd (by omega) (by omega) n.1 h40 ((hH.fr f1 x_rM_H).fr n.2 x_rM_H) (by show 8 * (lm - (s.1 + 1)) + 5 ≤ (g : Int); omega) (by show 4 * (4 - (w + 1)) + (lm - (s.1 + 1)) + 14 ≤ (dd : Int); omega)).post (fun r m' q => ⟨q.1, fun y1 y2 => q.2.1 y1 (by rw [q_up_i (by decide), f1 _ _ (by unfold x_rM; omega)]; exact y2), (f1.tr n.2).tr q.2.2⟩)
  · rintro r1 m1 ⟨g1, f1⟩ _ z y r4 m4 ⟨rfl, h4, -⟩ _ z4 z5 r7 m7 h7 _
    exact sp_needM h7.1 (by decide)
  · rintro r1 m1 ⟨g1, f1⟩ _ z y r4 m4 ⟨rfl, h4, -⟩ _ z4 z5 r7 m7 h7 _ r8 m8 ⟨c8, f8⟩ _
    have g1 := g1.resolve_left (fun y => by omega)
    have hi := (h4 40 (by decide)).mp z4
    rw [bare g1.2.1, l_p7, if_pos ⟨hi, z5⟩]
    exact ⟨c8, fun y1 y2 => h7.2.1 (t_nd_s h7.1.2.2.2.1 y1) y2, h7.2.2.tr f8⟩
  · rintro r1 m1 ⟨g1, f1⟩ _ z y
    have g1 := g1.resolve_left (fun y => by omega)
    have ns : s.2 ≠ -1 := by rw [← g1.2.2.2.1]; exact y
    rw [bare g1.2.1, l_p7, if_neg (fun q => ns q.1.1), if_neg (fun q => ns q.1), if_neg (fun q => ns q.1), t_fl_fl ns]
    exact ⟨g1.2.2, fun y => absurd y ns, f1⟩
  · rintro r1 m1 ⟨g1, f1⟩ _ z
    have g1 := g1.resolve_right (fun y => by omega)
    exact (hT (g + 1) (Nat.le_refl _) w (s.1 + 1, s.2) m1 dd w0 w4 g1.2.2 h40 (hH.fr f1 x_rM_H) (by show 8 * (lm - (s.1 + 1)) + 2 ≤ ((g + 1 : Nat) : Int); omega) (by show 4 * (4 - w) + (lm - (s.1 + 1)) + 11 ≤ (dd : Int); omega)).post (fun r m' q => ⟨q.1, fun y1 y2 => q.2.1 y1 (by rw [f1 _ _ (by unfold x_rM; omega)]; exact y2), f1.tr q.2.2⟩)
  · rintro r1 m1 ⟨g1, f1⟩ _ z r9 m9 h9 _
    have g1 := g1.resolve_right (fun y => by omega)
    obtain ⟨p1, p2⟩ := l_60 (S := S) (lm := lm) he (g + 1) w (s.1 + 1, s.2) (ok.nx (S := S) g1.2.1.2.1) (by show 8 * (lm - (s.1 + 1)) + 2 ≤ ((g + 1 : Nat) : Int); omega)
    rw [l_p0, if_pos g1.2.1]
    refine ⟨by rw [p1]; exact h9.1, fun y1 y2 => ?_, h9.2.2⟩
    rw [p1] at y1
    rw [p2 y1, h9.2.1 y1 y2]
theorem rl_product {f : Nat} (hT : ∀ g, g ≤ f → r_E b S lm e g 0 11 yX12_thing cX12_thing 4) : r_E b S lm e (f + 1) 1 12 yX12_product cX12_product 5 := by
  intro w s m d w0 w4 c h40 hH hm hdd
  have hm : 8 * (lm - s.1) + 3 ≤ (f : Int) + 1 := by have : l_rk 1 = 3 := rfl; omega
  have ok := c.2.2.2.1
  have k2 := ok.2.1
  obtain ⟨dd, rfl⟩ : ∃ dd, d = dd + 1 := ⟨d - 1, by omega⟩
  refine q_enter (by decide +kernel) (by simp) (Nat.le_of_ble_eq_true rfl) ?_
  have go : ∀ (g : Nat) (v2 : Int) (m' : qm) (s' : a_R) (C : List Int), g ≤ f → 8 * (lm - s'.1) + 1 ≤ (g : Int) → s.1 ≤ s'.1 → r_R b m' S lm s' → (s'.2 = -1 → l_W C ∧ (m 188 26 ≠ -1 → v2 = c_val e C)) → l_p S lm (f + 1) 1 w s = ((l_p S lm g 2 w s').1, C ++ (l_p S lm g 2 w s').2) → q_fx x_rM m m' →
      q_At yX12_product cX12_product 5 (some .int) (dd + 1) 0 0 (qK (q_rb b) (fun r m' => r_Q b S lm e (l_p S lm (f + 1) 1 w s) m r m')) 6 [(2, 188), (0, w), (0, v2), (4, 0), (4, 0)] [] (q_sh0, q_rb b, m') := by
    intro g
    induction g with
    | zero =>
      intro v2 m' s' C gf hg hs c' hC he fx
      have := c'.2.2.2.1.2.1
      omega
    | succ g ih =>
      intro v2 m' s' C gf hg hs c' hC he fx
      have ok' := c'.2.2.2.1
      have k2' := ok'.2.1
      have k1' := ok'.1
      have stop : ∀ m2, m2 = m' → ¬ (t_is S lm s' 42 ∨ t_is S lm s' 47) → r_Q b S lm e (l_p S lm (f + 1) 1 w s) m v2 m2 := by
        intro m2 e2 n
        rw [e2]
        rw [l_p2, if_neg n] at he
        rw [he]
        refine ⟨c', fun y1 y2 => ?_, fx⟩
        show v2 = c_val e (C ++ [])
        rw [List.append_nil]; exact (hC y1).2 y2
      have at46 : ∀ ch v3, (ch = 42 ∧ v3 ≠ 0) ∨ (ch = 47 ∧ v3 = 0) → t_is S lm s' ch → q_At yX12_product cX12_product 5 (some .int) (dd + 1) 0 0 (qK (q_rb b) (fun r m' => r_Q b S lm e (l_p S lm (f + 1) 1 w s) m r m')) 46 [(2, 188), (0, w), (0, v2), (0, v3), (4, 0)] [] (q_sh0, q_rb b, m') := by
        intro ch v3 hch hi
        have hor : t_is S lm s' 42 ∨ t_is S lm s' 47 := by rcases hch with h | h <;> obtain ⟨rfl, -⟩ := h; exact Or.inl hi; exact Or.inr hi
        have hC1 := hC hi.1
        have n := c'.nx hi.1 hi.2.1
        have e21 := c'.2.2.1 hi.1
        have ew : q_w32 (m' 188 21 + 1) = m' 188 21 + 1 := q_w32_id (q_in_of (by omega) (by omega))
        have oT := l_ok (S := S) g 0 w (s'.1 + 1, s'.2) (by decide) (ok'.nx (S := S) hi.2.1) (by show 8 * (lm - (s'.1 + 1)) + 2 ≤ (g : Int); omega)
        have oT2 : s'.1 + 1 ≤ (l_p S lm g 0 w (s'.1 + 1, s'.2)).1.1 := oT.2.1
        rw [l_p2, if_pos hor] at he
        have nxt : ∀ r1 m1, r_Q b S lm e (l_p S lm g 0 w (s'.1 + 1, s'.2)) m r1 m1 → q_At yX12_product cX12_product 5 (some .int) (dd + 1) 0 0 (qK (q_rb b) (fun r m' => r_Q b S lm e (l_p S lm (f + 1) 1 w s) m r m')) 6 [(2, 188), (0, w), (0, l_jo ch v2 r1), (4, 0), (4, 0)] [] (q_sh0, q_rb b, m1) := by
          rintro r1 m1 ⟨c1, e1, f1⟩
          refine ih (l_jo ch v2 r1) m1 (l_p S lm g 0 w (s'.1 + 1, s'.2)).1 (C ++ (l_p S lm g 0 w (s'.1 + 1, s'.2)).2 ++ [3000 + ch]) (by omega) (by omega) (by omega) c1 (fun y => ?_) ?_ f1
          · have wc := l_W_cmp (x := 3000 + ch) hC1.1 ((oT.2.2 y).2.2.2 (by decide)) (by omega)
            refine ⟨wc.1, fun y2 => ?_⟩
            rw [wc.2, ← hC1.2 y2, ← e1 y y2, show 3000 + ch - 3000 = ch by omega]
          · rw [he, hi.2.2, List.append_assoc, List.append_assoc]; rfl
        refine bkX12_product_46 (by omega) (P1 := fun r m' => r_Q b S lm e (l_p S lm g 0 w (s'.1 + 1, s'.2)) m r m') ?_ (fun _ _ _ _ _ y => y) ?_ ?_ ?_
        · rw [ew]
          exact (hT g (by omega) w (s'.1 + 1, s'.2) _ dd w0 w4 n.1 h40 ((hH.fr fx x_rM_H).fr n.2 x_rM_H) (by show 8 * (lm - (s'.1 + 1)) + 2 ≤ (g : Int); omega) (by show 4 * (4 - w) + (lm - (s'.1 + 1)) + 11 ≤ (dd : Int); omega)).post (fun r m2 q => ⟨q.1, fun y1 y2 => q.2.1 y1 (by rw [q_up_i (by decide), fx _ _ (by unfold x_rM; omega)]; exact y2), (fx.tr n.2).tr q.2.2⟩)
        · rintro r1 m1 h1 _ z y
          have : ch = 47 := by omega
          subst this
          have ej : l_jo 47 v2 r1 = q_oidiv v2 r1 := by unfold l_jo; rw [if_neg (by decide), if_neg (by decide), if_neg (by decide), if_neg (by decide), if_neg (by decide), if_neg (by decide), if_neg y]
          have q := nxt r1 m1 h1; rw [ej] at q; exact q
        · rintro r1 m1 h1 _ z y
          have : ch = 47 := by omega
          subst this
          have ej : l_jo 47 v2 r1 = 0 := by unfold l_jo; rw [if_neg (by decide), if_neg (by decide), if_neg (by decide), if_neg (by decide), if_neg (by decide), if_neg (by decide), if_pos y]
          have q := nxt r1 m1 h1; rw [ej] at q; exact q
        · rintro r1 m1 h1 _ z
          have : ch = 42 := by omega
          subst this
          have ej : l_jo 42 v2 r1 = q_w32 (v2 * r1) := rfl
          have q := nxt r1 m1 h1; rw [ej] at q; exact q
      have at31 : (t_is S lm s' 42 ∨ t_is S lm s' 47) → q_At yX12_product cX12_product 5 (some .int) (dd + 1) 0 0 (qK (q_rb b) (fun r m' => r_Q b S lm e (l_p S lm (f + 1) 1 w s) m r m')) 31 [(2, 188), (0, w), (0, v2), (4, 0), (4, 0)] [] (q_sh0, q_rb b, m') := by
        intro hor
        have hs' : s'.2 = -1 := by rcases hor with h | h <;> exact h.1
        refine bkX12_product_31 (by omega) (sp_hereM c' hs') ?_ ?_
        · rintro r1 m1 ⟨rfl, h1, -⟩ _ z
          exact at46 47 0 (Or.inr ⟨rfl, rfl⟩) (hor.resolve_left (fun y => z ((h1 42 (by decide)).mpr y)))
        · rintro r1 m1 ⟨rfl, h1, -⟩ _ z
          exact at46 42 1 (Or.inl ⟨rfl, by decide⟩) ((h1 42 (by decide)).mp z)
      have e22 := c'.2.1
      refine bkX12_product_6 (by omega) (P2 := fun r m2 => m2 = m' ∧ (∀ ch, 0 ≤ ch → (r = ch ↔ t_is S lm s' ch)) ∧ (r = S s'.1 ∨ r < 0)) (P4 := fun _ _ r m4 => m4 = m' ∧ (∀ ch, 0 ≤ ch → (r = ch ↔ t_is S lm s' ch)) ∧ (r = S s'.1 ∨ r < 0)) (fun z => sp_hereM c' (e22.symm.trans z)) ?_ ?_ ?_ ?_ (fun z => stop m' rfl (fun y => by rcases y with y | y <;> exact z (e22.trans y.1)))
      · rintro z r2 m2 ⟨rfl, h2, -⟩ _ z2
        exact at31 (Or.inl ((h2 42 (by decide)).mp z2))
      · rintro z r2 m2 ⟨rfl, h2, -⟩ _ z2
        exact sp_hereM c' (e22.symm.trans z)
      · rintro z r2 m2 ⟨rfl, h2, -⟩ _ z2 r4 m4 ⟨e4, h4, -⟩ _ z4
        exact stop m4 e4 (fun y => by
          rcases y with y | y
          · exact z2 ((h2 42 (by decide)).mpr y)
          · exact z4 ((h4 47 (by decide)).mpr y))
      · rintro z r2 m2 ⟨rfl, h2, -⟩ _ z2 r4 m4 ⟨e4, h4, -⟩ _ z4
        rw [e4]
        exact at31 (Or.inr ((h4 47 (by decide)).mp z4))
  have o1 := l_ok (S := S) f 0 w s (by decide) ok (by show 8 * (lm - s.1) + 2 ≤ (f : Int); omega)
  refine bkX12_product_0 (by omega) (hT f (Nat.le_refl _) w s m dd w0 w4 c h40 hH (by show 8 * (lm - s.1) + 2 ≤ (f : Int); omega) (by omega)) ?_
  rintro r1 m1 ⟨c1, e1, f1⟩ _
  exact go f r1 m1 (l_p S lm f 0 w s).1 (l_p S lm f 0 w s).2 (Nat.le_refl _) (by have := o1.2.1; omega) o1.2.1 c1 (fun y => ⟨(o1.2.2 y).2.2.2 (by decide), fun y2 => e1 y y2⟩) rfl f1
theorem rl_sum {f : Nat} (hT : ∀ g, g ≤ f → r_E b S lm e g 1 12 yX12_product cX12_product 5) : r_E b S lm e (f + 1) 3 13 yX12_sum cX12_sum 5 := by
  intro w s m d w0 w4 c h40 hH hm hdd
  have hm : 8 * (lm - s.1) + 4 ≤ (f : Int) + 1 := by have : l_rk 3 = 4 := rfl; omega
  have ok := c.2.2.2.1
  have k2 := ok.2.1
  obtain ⟨dd, rfl⟩ : ∃ dd, d = dd + 1 := ⟨d - 1, by omega⟩
  refine q_enter (by decide +kernel) (by simp) (Nat.le_of_ble_eq_true rfl) ?_
  have go : ∀ (g : Nat) (v2 : Int) (m' : qm) (s' : a_R) (C : List Int), g ≤ f → 8 * (lm - s'.1) + 1 ≤ (g : Int) → s.1 ≤ s'.1 → r_R b m' S lm s' → (s'.2 = -1 → l_W C ∧ (m 188 26 ≠ -1 → v2 = c_val e C)) → l_p S lm (f + 1) 3 w s = ((l_p S lm g 4 w s').1, C ++ (l_p S lm g 4 w s').2) → q_fx x_rM m m' →
      q_At yX12_sum cX12_sum 5 (some .int) (dd + 1) 0 0 (qK (q_rb b) (fun r m' => r_Q b S lm e (l_p S lm (f + 1) 3 w s) m r m')) 6 [(2, 188), (0, w), (0, v2), (4, 0), (4, 0)] [] (q_sh0, q_rb b, m') := by
    intro g
    induction g with
    | zero =>
      intro v2 m' s' C gf hg hs c' hC he fx
      have := c'.2.2.2.1.2.1
      omega
    | succ g ih =>
      intro v2 m' s' C gf hg hs c' hC he fx
      have ok' := c'.2.2.2.1
      have k2' := ok'.2.1
      have k1' := ok'.1
      have stop : ∀ m2, m2 = m' → ¬ (t_is S lm s' 43 ∨ t_is S lm s' 45) → r_Q b S lm e (l_p S lm (f + 1) 3 w s) m v2 m2 := by
        intro m2 e2 n
        rw [e2]
        rw [l_p4, if_neg n] at he
        rw [he]
        refine ⟨c', fun y1 y2 => ?_, fx⟩
        show v2 = c_val e (C ++ [])
        rw [List.append_nil]; exact (hC y1).2 y2
      have at46 : ∀ ch v3, (ch = 43 ∧ v3 ≠ 0) ∨ (ch = 45 ∧ v3 = 0) → t_is S lm s' ch → q_At yX12_sum cX12_sum 5 (some .int) (dd + 1) 0 0 (qK (q_rb b) (fun r m' => r_Q b S lm e (l_p S lm (f + 1) 3 w s) m r m')) 46 [(2, 188), (0, w), (0, v2), (0, v3), (4, 0)] [] (q_sh0, q_rb b, m') := by
        intro ch v3 hch hi
        have hor : t_is S lm s' 43 ∨ t_is S lm s' 45 := by rcases hch with h | h <;> obtain ⟨rfl, -⟩ := h; exact Or.inl hi; exact Or.inr hi
        have hC1 := hC hi.1
        have n := c'.nx hi.1 hi.2.1
        have e21 := c'.2.2.1 hi.1
        have ew : q_w32 (m' 188 21 + 1) = m' 188 21 + 1 := q_w32_id (q_in_of (by omega) (by omega))
        have oT := l_ok (S := S) g 1 w (s'.1 + 1, s'.2) (by decide) (ok'.nx (S := S) hi.2.1) (by show 8 * (lm - (s'.1 + 1)) + 3 ≤ (g : Int); omega)
        have oT2 : s'.1 + 1 ≤ (l_p S lm g 1 w (s'.1 + 1, s'.2)).1.1 := oT.2.1
        rw [l_p4, if_pos hor] at he
        have nxt : ∀ r1 m1, r_Q b S lm e (l_p S lm g 1 w (s'.1 + 1, s'.2)) m r1 m1 → q_At yX12_sum cX12_sum 5 (some .int) (dd + 1) 0 0 (qK (q_rb b) (fun r m' => r_Q b S lm e (l_p S lm (f + 1) 3 w s) m r m')) 6 [(2, 188), (0, w), (0, l_jo ch v2 r1), (4, 0), (4, 0)] [] (q_sh0, q_rb b, m1) := by
          rintro r1 m1 ⟨c1, e1, f1⟩
          refine ih (l_jo ch v2 r1) m1 (l_p S lm g 1 w (s'.1 + 1, s'.2)).1 (C ++ (l_p S lm g 1 w (s'.1 + 1, s'.2)).2 ++ [3000 + ch]) (by omega) (by omega) (by omega) c1 (fun y => ?_) ?_ f1
          · have wc := l_W_cmp (x := 3000 + ch) hC1.1 ((oT.2.2 y).2.2.2 (by decide)) (by omega)
            refine ⟨wc.1, fun y2 => ?_⟩
            rw [wc.2, ← hC1.2 y2, ← e1 y y2, show 3000 + ch - 3000 = ch by omega]
          · rw [he, hi.2.2, List.append_assoc, List.append_assoc]; rfl
        refine bkX12_sum_46 (by omega) (P1 := fun r m' => r_Q b S lm e (l_p S lm g 1 w (s'.1 + 1, s'.2)) m r m') ?_ ?_ ?_
        · rw [ew]
          exact (hT g (by omega) w (s'.1 + 1, s'.2) _ dd w0 w4 n.1 h40 ((hH.fr fx x_rM_H).fr n.2 x_rM_H) (by show 8 * (lm - (s'.1 + 1)) + 3 ≤ (g : Int); omega) (by show 4 * (4 - w) + (lm - (s'.1 + 1)) + 12 ≤ (dd : Int); omega)).post (fun r m2 q => ⟨q.1, fun y1 y2 => q.2.1 y1 (by rw [q_up_i (by decide), fx _ _ (by unfold x_rM; omega)]; exact y2), (fx.tr n.2).tr q.2.2⟩)
        · rintro r1 m1 h1 _ z
          have : ch = 45 := by omega
          subst this
          have ej : l_jo 45 v2 r1 = q_w32 (v2 - r1) := rfl
          have q := nxt r1 m1 h1; rw [ej] at q; exact q
        · rintro r1 m1 h1 _ z
          have : ch = 43 := by omega
          subst this
          have ej : l_jo 43 v2 r1 = q_w32 (v2 + r1) := rfl
          have q := nxt r1 m1 h1; rw [ej] at q; exact q
      have at31 : (t_is S lm s' 43 ∨ t_is S lm s' 45) → q_At yX12_sum cX12_sum 5 (some .int) (dd + 1) 0 0 (qK (q_rb b) (fun r m' => r_Q b S lm e (l_p S lm (f + 1) 3 w s) m r m')) 31 [(2, 188), (0, w), (0, v2), (4, 0), (4, 0)] [] (q_sh0, q_rb b, m') := by
        intro hor
        have hs' : s'.2 = -1 := by rcases hor with h | h <;> exact h.1
        refine bkX12_sum_31 (by omega) (sp_hereM c' hs') ?_ ?_
        · rintro r1 m1 ⟨rfl, h1, -⟩ _ z
          exact at46 45 0 (Or.inr ⟨rfl, rfl⟩) (hor.resolve_left (fun y => z ((h1 43 (by decide)).mpr y)))
        · rintro r1 m1 ⟨rfl, h1, -⟩ _ z
          exact at46 43 1 (Or.inl ⟨rfl, by decide⟩) ((h1 43 (by decide)).mp z)
      have e22 := c'.2.1
      refine bkX12_sum_6 (by omega) (P2 := fun r m2 => m2 = m' ∧ (∀ ch, 0 ≤ ch → (r = ch ↔ t_is S lm s' ch)) ∧ (r = S s'.1 ∨ r < 0)) (P4 := fun _ _ r m4 => m4 = m' ∧ (∀ ch, 0 ≤ ch → (r = ch ↔ t_is S lm s' ch)) ∧ (r = S s'.1 ∨ r < 0)) (fun z => sp_hereM c' (e22.symm.trans z)) ?_ ?_ ?_ ?_ (fun z => stop m' rfl (fun y => by rcases y with y | y <;> exact z (e22.trans y.1)))
      · rintro z r2 m2 ⟨rfl, h2, -⟩ _ z2
        exact at31 (Or.inl ((h2 43 (by decide)).mp z2))
      · rintro z r2 m2 ⟨rfl, h2, -⟩ _ z2
        exact sp_hereM c' (e22.symm.trans z)
      · rintro z r2 m2 ⟨rfl, h2, -⟩ _ z2 r4 m4 ⟨e4, h4, -⟩ _ z4
        exact stop m4 e4 (fun y => by
          rcases y with y | y
          · exact z2 ((h2 43 (by decide)).mpr y)
          · exact z4 ((h4 45 (by decide)).mpr y))
      · rintro z r2 m2 ⟨rfl, h2, -⟩ _ z2 r4 m4 ⟨e4, h4, -⟩ _ z4
        rw [e4]
        exact at31 (Or.inr ((h4 45 (by decide)).mp z4))
  have o1 := l_ok (S := S) f 1 w s (by decide) ok (by show 8 * (lm - s.1) + 3 ≤ (f : Int); omega)
  refine bkX12_sum_0 (by omega) (hT f (Nat.le_refl _) w s m dd w0 w4 c h40 hH (by show 8 * (lm - s.1) + 3 ≤ (f : Int); omega) (by omega)) ?_
  rintro r1 m1 ⟨c1, e1, f1⟩ _
  exact go f r1 m1 (l_p S lm f 1 w s).1 (l_p S lm f 1 w s).2 (Nat.le_refl _) (by have := o1.2.1; omega) o1.2.1 c1 (fun y => ⟨(o1.2.2 y).2.2.2 (by decide), fun y2 => e1 y y2⟩) rfl f1
theorem rl_held {f : Nat} (hT : r_E b S lm e f 3 13 yX12_sum cX12_sum 5) : r_E b S lm e (f + 1) 5 14 yX12_held cX12_held 3 := by
  intro w s m d w0 w4 c h40 hH hm hdd
  have hm : 8 * (lm - s.1) + 5 ≤ (f : Int) + 1 := by have : l_rk 5 = 5 := rfl; omega
  have ok := c.2.2.2.1
  have k2 := ok.2.1
  obtain ⟨dd, rfl⟩ : ∃ dd, d = dd + 1 := ⟨d - 1, by omega⟩
  have o1 := l_ok (S := S) f 3 w s (by decide) ok (by show 8 * (lm - s.1) + 4 ≤ (f : Int); omega)
  have he : l_p S lm (f + 1) 5 w s = _ := l_p5
  have first := hT w s m dd w0 w4 c h40 hH (by show 8 * (lm - s.1) + 4 ≤ (f : Int); omega) (by omega)
  generalize hR : l_p S lm f 3 w s = R at o1 he first
  have o12 := o1.2.1
  refine q_enter (by decide +kernel) (by simp) (Nat.le_of_ble_eq_true rfl) ?_
  have again : ∀ ch m1, t_is S lm R.1 ch → r_R b m1 S lm (R.1.1 + 1, R.1.2) → q_fx x_rM m m1 → q_Ev yX12_sum cX12_sum 5 (some .int) dd 0 0 [(2, 188), (0, w)] (q_sh0, q_rb b, m1) (qK (q_rb b) (fun r m' => r_Q b S lm e (l_p S lm f 3 w (R.1.1 + 1, R.1.2)) m r m')) := by
    intro ch m1 hi c1 f1
    exact (hT w (R.1.1 + 1, R.1.2) m1 dd w0 w4 c1 h40 (hH.fr f1 x_rM_H) (by show 8 * (lm - (R.1.1 + 1)) + 4 ≤ (f : Int); omega) (by show 4 * (4 - w) + (lm - (R.1.1 + 1)) + 13 ≤ (dd : Int); omega)).post (fun r m' q => ⟨q.1, fun y1 y2 => q.2.1 y1 (by rw [f1 _ _ (by unfold x_rM; omega)]; exact y2), f1.tr q.2.2⟩)
  have fin : ∀ ch r1 r2 m2, (ch = 60 ∨ ch = 62 ∨ ch = 61) → t_is S lm R.1 ch → (R.1.2 = -1 → m 188 26 ≠ -1 → r1 = c_val e R.2) → r_Q b S lm e (l_p S lm f 3 w (R.1.1 + 1, R.1.2)) m r2 m2 → r_Q b S lm e (l_p S lm (f + 1) 5 w s) m (l_jo ch r1 r2) m2 := by
    rintro ch r1 r2 m2 hch hi e1 ⟨c2, e2, f2⟩
    have hor : t_is S lm R.1 60 ∨ t_is S lm R.1 62 ∨ t_is S lm R.1 61 := by rcases hch with rfl | rfl | rfl; exact Or.inl hi; exact Or.inr (Or.inl hi); exact Or.inr (Or.inr hi)
    have oT := l_ok (S := S) f 3 w (R.1.1 + 1, R.1.2) (by decide) (o1.1.nx (S := S) hi.2.1) (by show 8 * (lm - (R.1.1 + 1)) + 4 ≤ (f : Int); omega)
    rw [if_pos hor] at he
    rw [he]
    refine ⟨c2, fun y1 y2 => ?_, f2⟩
    have wc := l_W_cmp (x := 3000 + S R.1.1) ((o1.2.2 hi.1).2.2.2 (by decide)) ((oT.2.2 y1).2.2.2 (by decide)) (by have := hi.2.2; omega)
    show _ = c_val e (R.2 ++ (l_p S lm f 3 w (R.1.1 + 1, R.1.2)).2 ++ [3000 + S R.1.1])
    rw [wc.2, ← e1 hi.1 y2, ← e2 y1 y2, hi.2.2, show 3000 + ch - 3000 = ch by omega]
  refine bkX12_held_0 (by omega) (P2 := fun _ m1 r m' => ((r = 1 ∧ t_is S lm R.1 60 ∧ r_R b m' S lm (R.1.1 + 1, R.1.2)) ∨ (r = 0 ∧ ¬ t_is S lm R.1 60 ∧ r_R b m' S lm R.1)) ∧ q_fx x_rM m1 m') (P4 := fun _ _ _ m2 r m' => ((r = 1 ∧ t_is S lm R.1 62 ∧ r_R b m' S lm (R.1.1 + 1, R.1.2)) ∨ (r = 0 ∧ ¬ t_is S lm R.1 62 ∧ r_R b m' S lm R.1)) ∧ q_fx x_rM m2 m') (P6 := fun _ _ _ _ _ m4 r m' => ((r = 1 ∧ t_is S lm R.1 61 ∧ r_R b m' S lm (R.1.1 + 1, R.1.2)) ∨ (r = 0 ∧ ¬ t_is S lm R.1 61 ∧ r_R b m' S lm R.1)) ∧ q_fx x_rM m4 m') (P8 := fun _ _ _ _ _ _ _ _ r m' => r_Q b S lm e (l_p S lm f 3 w (R.1.1 + 1, R.1.2)) m r m') (P10 := fun _ _ _ _ _ _ r m' => r_Q b S lm e (l_p S lm f 3 w (R.1.1 + 1, R.1.2)) m r m') (P12 := fun _ _ _ _ r m' => r_Q b S lm e (l_p S lm f 3 w (R.1.1 + 1, R.1.2)) m r m') first ?_ ?_ ?_ ?_ ?_ ?_ ?_ ?_ ?_ ?_ ?_ ?_ ?_
  · rintro r1 m1 ⟨c1, e1, f1⟩ _
    exact sp_passesM c1 (by decide)
  · rintro r1 m1 ⟨c1, e1, f1⟩ _ r2 m2 ⟨g2, f2⟩ _ z2
    exact sp_passesM (g2.resolve_left (fun y => by omega)).2.2 (by decide)
  · rintro r1 m1 ⟨c1, e1, f1⟩ _ r2 m2 ⟨g2, f2⟩ _ z2 r4 m4 ⟨g4, f4⟩ _ z4
    exact sp_passesM (g4.resolve_left (fun y => by omega)).2.2 (by decide)
  · rintro r1 m1 ⟨c1, e1, f1⟩ _ r2 m2 ⟨g2, f2⟩ _ z2 r4 m4 ⟨g4, f4⟩ _ z4 r6 m6 ⟨g6, f6⟩ _ z6
    have g2 := g2.resolve_left (fun y => by omega)
    have g4 := g4.resolve_left (fun y => by omega)
    have g6 := g6.resolve_left (fun y => by omega)
    rw [if_neg (fun y => by rcases y with y | y | y; exact g2.2.1 y; exact g4.2.1 y; exact g6.2.1 y)] at he
    rw [he]
    exact ⟨g6.2.2, e1, ((f1.tr f2).tr f4).tr f6⟩
  · rintro r1 m1 ⟨c1, e1, f1⟩ _ r2 m2 ⟨g2, f2⟩ _ z2 r4 m4 ⟨g4, f4⟩ _ z4 r6 m6 ⟨g6, f6⟩ _ z6
    have g6 := g6.resolve_right (fun y => by omega)
    exact again 61 m6 g6.2.1 g6.2.2 (((f1.tr f2).tr f4).tr f6)
  · rintro r1 m1 ⟨c1, e1, f1⟩ _ r2 m2 ⟨g2, f2⟩ _ z2 r4 m4 ⟨g4, f4⟩ _ z4 r6 m6 ⟨g6, f6⟩ _ z6 r8 m8 h8 _ z8
    have g6 := g6.resolve_right (fun y => by omega)
    have ej : l_jo 61 r1 r8 = 0 := by unfold l_jo; rw [if_neg (by decide), if_neg (by decide), if_pos rfl, if_neg z8]
    rw [← ej]; exact fin 61 r1 r8 m8 (Or.inr (Or.inr rfl)) g6.2.1 e1 h8
  · rintro r1 m1 ⟨c1, e1, f1⟩ _ r2 m2 ⟨g2, f2⟩ _ z2 r4 m4 ⟨g4, f4⟩ _ z4 r6 m6 ⟨g6, f6⟩ _ z6 r8 m8 h8 _ z8
    have g6 := g6.resolve_right (fun y => by omega)
    have ej : l_jo 61 r1 r8 = 1 := by unfold l_jo; rw [if_neg (by decide), if_neg (by decide), if_pos rfl, if_pos z8]
    rw [← ej]; exact fin 61 r1 r8 m8 (Or.inr (Or.inr rfl)) g6.2.1 e1 h8
  · rintro r1 m1 ⟨c1, e1, f1⟩ _ r2 m2 ⟨g2, f2⟩ _ z2 r4 m4 ⟨g4, f4⟩ _ z4
    have g4 := g4.resolve_right (fun y => by omega)
    exact again 62 m4 g4.2.1 g4.2.2 ((f1.tr f2).tr f4)
  · rintro r1 m1 ⟨c1, e1, f1⟩ _ r2 m2 ⟨g2, f2⟩ _ z2 r4 m4 ⟨g4, f4⟩ _ z4 r8 m8 h8 _ z8
    have g4 := g4.resolve_right (fun y => by omega)
    have ej : l_jo 62 r1 r8 = 0 := by unfold l_jo; rw [if_neg (by decide), if_pos rfl, if_neg (by omega)]
    rw [← ej]; exact fin 62 r1 r8 m8 (Or.inr (Or.inl rfl)) g4.2.1 e1 h8
  · rintro r1 m1 ⟨c1, e1, f1⟩ _ r2 m2 ⟨g2, f2⟩ _ z2 r4 m4 ⟨g4, f4⟩ _ z4 r8 m8 h8 _ z8
    have g4 := g4.resolve_right (fun y => by omega)
    have ej : l_jo 62 r1 r8 = 1 := by unfold l_jo; rw [if_neg (by decide), if_pos rfl, if_pos (by omega)]
    rw [← ej]; exact fin 62 r1 r8 m8 (Or.inr (Or.inl rfl)) g4.2.1 e1 h8
  · rintro r1 m1 ⟨c1, e1, f1⟩ _ r2 m2 ⟨g2, f2⟩ _ z2
    have g2 := g2.resolve_right (fun y => by omega)
    exact again 60 m2 g2.2.1 g2.2.2 (f1.tr f2)
  · rintro r1 m1 ⟨c1, e1, f1⟩ _ r2 m2 ⟨g2, f2⟩ _ z2 r8 m8 h8 _ z8
    have g2 := g2.resolve_right (fun y => by omega)
    have ej : l_jo 60 r1 r8 = 0 := by unfold l_jo; rw [if_pos rfl, if_neg (by omega)]
    rw [← ej]; exact fin 60 r1 r8 m8 (Or.inl rfl) g2.2.1 e1 h8
  · rintro r1 m1 ⟨c1, e1, f1⟩ _ r2 m2 ⟨g2, f2⟩ _ z2 r8 m8 h8 _ z8
    have g2 := g2.resolve_right (fun y => by omega)
    have ej : l_jo 60 r1 r8 = 1 := by unfold l_jo; rw [if_pos rfl, if_pos (by omega)]
    rw [← ej]; exact fin 60 r1 r8 m8 (Or.inl rfl) g2.2.1 e1 h8
theorem rl_lp (he : ∀ i, q_in32 (e i)) : ∀ f : Nat, (∀ g, g ≤ f → r_E b S lm e g 0 11 yX12_thing cX12_thing 4) ∧ (∀ g, g ≤ f → r_E b S lm e g 1 12 yX12_product cX12_product 5) ∧ (∀ g, g ≤ f → r_E b S lm e g 3 13 yX12_sum cX12_sum 5) ∧ (∀ g, g ≤ f → r_E b S lm e g 5 14 yX12_held cX12_held 3) := by
  have no : ∀ (md : Nat) (K : Int) (y : MethodName) (cc : ByteArray) (nL : Nat), 1 ≤ l_rk md → r_E b S lm e 0 md K y cc nL := by
    intro md K y cc nL hr w s m d w0 w4 h h40 hH hm
    have := h.2.2.2.1.2.1
    omega
  intro f
  induction f with
  | zero =>
    refine ⟨fun g hg => ?_, fun g hg => ?_, fun g hg => ?_, fun g hg => ?_⟩ <;> (obtain rfl : g = 0 := by omega) <;> exact no _ _ _ _ _ (by decide)
  | succ f ih =>
    obtain ⟨i1, i2, i3, i4⟩ := ih
    refine ⟨fun g hg => ?_, fun g hg => ?_, fun g hg => ?_, fun g hg => ?_⟩
    · by_cases h : g ≤ f
      · exact i1 g h
      · obtain rfl : g = f + 1 := by omega
        exact rl_thing he i1 i4
    · by_cases h : g ≤ f
      · exact i2 g h
      · obtain rfl : g = f + 1 := by omega
        exact rl_product i1
    · by_cases h : g ≤ f
      · exact i3 g h
      · obtain rfl : g = f + 1 := by omega
        exact rl_sum i2
    · by_cases h : g ≤ f
      · exact i4 g h
      · obtain rfl : g = f + 1 := by omega
        exact rl_held (i3 f (Nat.le_refl _))
end LAWR
