/-! ===== wax() joined ===== -/
theorem i_O_ofE {LW : qm → Prop} {k : Nat} {r : Int} {y : MethodName} {cc : ByteArray} {nL : Nat} {rt : Option FieldType} {d kc ks : Nat} {as : List qv} {σ : qh} (h : q_Ev y cc nL rt d kc ks as σ (qE (fun r' m2 => r' = r ∧ i_I LW k m2))) : q_Ev y cc nL rt d kc ks as σ (i_O LW k r) := h.mono (fun r' σ ⟨b, m2, e, h1, h2⟩ => ⟨h1, b, m2, e, h2⟩)
theorem q_Ev.postE {y : MethodName} {cc : ByteArray} {nL : Nat} {rt : Option FieldType} {d kc ks : Nat} {as : List qv} {σ : qh} {P P' : Int → qm → Prop} (h : q_Ev y cc nL rt d kc ks as σ (qE P)) (hk : ∀ r m, P r m → P' r m) : q_Ev y cc nL rt d kc ks as σ (qE P') := h.mono (fun r σ ⟨b, m, e, p⟩ => ⟨b, m, e, hk r m p⟩)
theorem cl_wax {b B : Int} {m : qm} {n : Nat} {T : a_T} {A : a_W} {P : a_P} {C : List Int} (cT : c_T m n T) (cW : c_W m 5 n A) (cP : c_P m n P) (t : a_TV n T) (v : a_V B n T.1 A) (pv : a_PV B n T.1 P) (hC : l_cC m C) (j w : Int) :
    q_Ev yX11_wax cX11_wax 3 (some .boolean) 4 0 0 [(2, 0), (0, j), (0, w)] (q_sh0, q_rb b, m) (qK (q_rb b) (fun r m1 => r = (if a_wok n T A C j w then 1 else 0) ∧ c_W m1 5 n (if a_wok n T A C j w then a_wax A j w else A) ∧ c_P m1 n (if a_wok n T A C j w then a_rem A P else P) ∧ q_fx x_wC m m1)) := by
  have h9 := t.1
  have hc6 : ∀ j : Int, 0 ≤ j → j < n → T.1 j ≤ 60 := fun j a b => (t.2 j a b).2.1
  have e1 := cT.1
  have g9 : m 5 9 = if A.2.2.2.2 = A.2.2.2.1 then 1 else 0 := cW.2.2.2.2.2
  have no : ∀ m1, ¬ a_wok n T A C j w → c_W m1 5 n A → c_P m1 n P → q_fx x_wC m m1 → (0 : Int) = (if a_wok n T A C j w then 1 else 0) ∧ c_W m1 5 n (if a_wok n T A C j w then a_wax A j w else A) ∧ c_P m1 n (if a_wok n T A C j w then a_rem A P else P) ∧ q_fx x_wC m m1 := by
    intro m1 z a b c
    rw [if_neg z, if_neg z, if_neg z]; exact ⟨rfl, a, b, c⟩
  have xl : ∀ c i, (c = 152 ∨ c = 153) → x_wC c i := fun c i z => by unfold x_wC; omega
  refine q_enter (by decide +kernel) (by simp) (Nat.le_of_ble_eq_true rfl) ?_
  refine bkX11_wax_0 (P5 := fun r m5 => r = l_val C T A j ∧ q_fx (fun c _ => c = 152 ∨ c = 153) m m5) (P7 := fun _ m5 _ m7 => u_C m5 m7 ∧ q_fx x_Cr m5 m7) (fun _ z => no m (fun y => by have := y.2.1; omega) cW cP q_fx.rf) (fun _ _ z => no m (fun y => by have := y.2.1; omega) cW cP q_fx.rf) (fun _ _ _ z => no m (fun y => z (by rw [g9, if_neg y.2.2.1])) cW cP q_fx.rf) (fun z _ _ _ => cl_lawOf cT cW t v hC (by omega)) ?_ (fun z _ _ _ _ _ _ _ _ _ _ _ _ => by omega) ?_ ?_ (fun z => no m (fun y => z (by have := y.1; omega)) cW cP q_fx.rf)
  · rintro z _ _ _ r5 m5 ⟨e5, f5⟩ _ z5
    have p5 := cP.fr f5 (by unfold x_Cr; omega)
    have w5 := cW.fr f5 (by unfold w_z; omega)
    exact sp_rememberC ⟨p5.2.2.2.1, p5.2.2.2.2.1⟩ (by rw [p5.1]; exact ⟨p5.2.1, p5.2.2.1⟩) w5.b9
  · rintro z z1 z2 z3 r5 m5 ⟨e5, f5⟩ _ z5 r7 m7 ⟨u7, f7⟩ _
    have p5 := cP.fr f5 (by unfold x_Cr; omega)
    have w5 := cW.fr f5 (by unfold w_z; omega)
    have ok : a_wok n T A C j w := ⟨by omega, ⟨z1, z2⟩, fun y => by rw [g9, if_pos y] at z3; omega, by rw [← e5]; exact z5⟩
    rw [if_pos ok, if_pos ok, if_pos ok]
    have w7 := w5.fr f7 (by unfold w_z x_Cr; omega)
    refine ⟨rfl, ?_, ((p5.rem h9 hc6 w5 v pv u7).fr (X := fun c i => c = 9 ∨ (c = 5 ∧ i = 9)) ((q_fx.rf.up (Or.inl rfl)).up (Or.inr ⟨rfl, rfl⟩)) (by unfold x_Cr; omega)), (((f5.mono xl).tr (f7.mono (fun c i z => Or.inr (Or.inr (Or.inr (Or.inr z)))))).up (Or.inl rfl)).up (Or.inr (Or.inl ⟨rfl, rfl⟩))⟩
    obtain ⟨wa, wb, wc, wd, wf, wg⟩ := w7
    refine ⟨fun i i0 i1 => ?_, fun d d0 d1 => ?_, ?_, fun o o0 o1 => ?_, ?_, ?_⟩
    · have q := wa i i0 i1
      refine ⟨q.1.fr (by rw [q_up_c (by decide), q_up_c (by decide)]) (by rw [q_up_c (by decide), q_up_c (by decide)]) (fun i _ _ => by rw [q_up_c (by decide), q_up_c (by decide)]), ?_⟩
      show (q_up (q_up m7 9 j w) 5 9 1) 9 i = (if i = j then w else A.1.2.1 i)
      rw [q_up_c (by decide)]
      by_cases h : i = j
      · rw [if_pos h, h, q_up_s]
      · rw [if_neg h, q_up_i h]; exact q.2
    · show (q_up (q_up m7 9 j w) 5 9 1) 12 d = A.2.2.1 d
      rw [q_up_c (by decide), q_up_c (by decide)]; exact wb d d0 d1
    · rw [q_up_i (by decide), q_up_c (by decide)]; exact wc
    · show 0 ≤ (q_up (q_up m7 9 j w) 5 9 1) 13 o
      rw [q_up_c (by decide), q_up_c (by decide)]; exact wd o o0 o1
    · have e : ∀ o, (q_up (q_up m7 9 j w) 5 9 1) (5 + 8) o = m7 (5 + 8) o := fun o => by rw [q_up_c (by decide), q_up_c (by decide)]
      rw [e, e, e, e, e, e, e]; exact wf
    · rw [q_up_s]; show (1 : Int) = if A.2.2.2.1 = A.2.2.2.1 then 1 else 0; rw [if_pos rfl]
  · rintro z z1 z2 z3 r5 m5 ⟨e5, f5⟩ _ z5
    exact no m5 (fun y => y.2.2.2 (by rw [← e5]; exact z5)) (cW.fr f5 (by unfold w_z; omega)) (cP.fr f5 (by unfold x_Cr; omega)) (f5.mono xl)
theorem rf_wax {b B : Int} {m : qm} {n : Nat} {T : a_T} {A : a_W} {P : a_P} {C : List Int} (cT : r_T m n T) (cW : r_W m n A) (cP : r_P m n P) (t : a_TV n T) (v : a_V B n T.1 A) (pv : a_PV B n T.1 P) (hB : B ≤ 1000000) (hC : l_cR m C) (j w : Int) :
    q_Ev yX12_wax cX12_wax 3 (some .boolean) 72 0 0 [(2, 188), (0, j), (0, w)] (q_sh0, q_rb b, m) (qE (fun r m1 => r = (if a_wok n T A C j w then 1 else 0) ∧ r_W m1 n (if a_wok n T A C j w then a_wax A j w else A) ∧ r_P m1 n (if a_wok n T A C j w then a_rem A P else P) ∧ q_fx x_wM m m1)) := by
  have h9 := t.1
  have hc6 : ∀ j : Int, 0 ≤ j → j < n → T.1 j ≤ 60 := fun j a b => (t.2 j a b).2.1
  have e0 := cT.1
  have g10 : m 188 10 = A.2.2.2.1 := cW.2.2.2.1
  have g12 : m 188 12 = A.2.2.2.2 := cW.2.2.2.2
  have g0 : q_fx (fun c i => c = 188 ∧ i = 17) m (q_up m 188 17 0) := q_fx.rf.up ⟨rfl, rfl⟩
  have t0 := cT.fr g0 (by omega)
  have w0 := cW.fr g0 (by omega)
  have p0 := cP.fr g0 (by unfold x_Mr; omega)
  have f0 : q_fx x_wM m (q_up m 188 17 0) := g0.mono (fun c i z => by unfold x_wM; omega)
  have no : ∀ m1, ¬ a_wok n T A C j w → r_W m1 n A → r_P m1 n P → q_fx x_wM m m1 → (0 : Int) = (if a_wok n T A C j w then 1 else 0) ∧ r_W m1 n (if a_wok n T A C j w then a_wax A j w else A) ∧ r_P m1 n (if a_wok n T A C j w then a_rem A P else P) ∧ q_fx x_wM m m1 := by
    intro m1 z a b c
    rw [if_neg z, if_neg z, if_neg z]; exact ⟨rfl, a, b, c⟩
  have xl : ∀ c i, x_lf c i → x_wM c i := fun c i z => Or.inr (Or.inr (Or.inl z))
  refine q_enter (by decide +kernel) (by simp) (Nat.le_of_ble_eq_true rfl) ?_
  refine bkX12_wax_0 (P4 := fun r m5 => r = l_val C T A j ∧ q_fx x_lf (q_up m 188 17 0) m5) (P6 := fun _ _ m5 _ m7 => u_M m5 m7 ∧ q_fx x_Mr m5 m7) (q_in_of (by omega) (by omega)) (fun _ _ z => no _ (fun y => y.2.2.1 (by rw [← g10, ← g12]; exact z)) w0 p0 f0) (fun z _ _ => rf_lawFor t0 w0 t v hB (hC.fr g0 (by omega)) (by omega)) ?_ (fun z _ _ _ _ _ _ _ _ _ _ _ _ => by omega) ?_ ?_ (fun _ z => no _ (fun y => z y.2.1) w0 p0 f0) (fun z => no _ (fun y => z (by have := y.1; omega)) w0 p0 f0)
  · rintro z _ _ r4 b4 m4 ⟨e4, f4⟩ _ z4
    have p4 := p0.fr f4 (by unfold x_Mr x_lf; omega)
    exact sp_rememberM (by rw [p4.1]; exact ⟨p4.2.1, p4.2.2.1⟩)
  · rintro z z1 z2 r4 b4 m4 ⟨e4, f4⟩ _ z4 r6 m6 ⟨u6, f6⟩ _
    have p4 := p0.fr f4 (by unfold x_Mr x_lf; omega)
    have w4 := w0.fr f4 (by unfold x_lf; omega)
    have ok : a_wok n T A C j w := ⟨by omega, z1, fun y => z2 (by rw [g10, g12]; exact y), by rw [← e4]; exact z4⟩
    rw [if_pos ok, if_pos ok, if_pos ok]
    have w6 := w4.fr f6 (by unfold x_Mr; omega)
    refine ⟨rfl, ?_, ((p4.rem h9 hc6 w4 v pv u6).fr (X := fun c i => c = 195 ∨ (c = 188 ∧ i = 12)) ((q_fx.rf.up (Or.inl rfl)).up (Or.inr ⟨rfl, rfl⟩)) (by unfold x_Mr; omega)), (((f0.tr (f4.mono xl)).tr (f6.mono (fun c i z => Or.inr (Or.inr (Or.inr z))))).up (Or.inl rfl)).up (Or.inr (Or.inl ⟨rfl, Or.inl rfl⟩))⟩
    obtain ⟨wa, wb, wc, wd, wf⟩ := w6
    have wd : m6 188 10 = A.2.2.2.1 := wd
    refine ⟨⟨fun i i0 i1 => ⟨?_, ?_⟩, ?_⟩, fun i k i0 i1 k0 k1 => ?_, fun d d0 d1 => ?_, ?_, ?_⟩
    · show (q_up (q_up m6 195 j w) 188 12 (m6 188 10)) 190 i = A.1.1 i
      rw [q_up_c (by decide), q_up_c (by decide)]; exact (wa.1 i i0 i1).1
    · show (q_up (q_up m6 195 j w) 188 12 (m6 188 10)) 195 i = (if i = j then w else A.1.2.1 i)
      rw [q_up_c (by decide)]
      by_cases h : i = j
      · rw [if_pos h, h, q_up_s]
      · rw [if_neg h, q_up_i h]; exact (wa.1 i i0 i1).2
    · show (q_up (q_up m6 195 j w) 188 12 (m6 188 10)) 188 11 = A.1.2.2
      rw [q_up_i (by decide), q_up_c (by decide)]; exact wa.2
    · have k1 : k < (q_up (q_up m6 195 j w) 188 12 (m6 188 10)) 190 i := k1
      rw [q_up_c (by decide), q_up_c (by decide)] at k1
      show (q_up (q_up m6 195 j w) 188 12 (m6 188 10)) 196 (60 * i + k) = A.2.1 i k
      rw [q_up_c (by decide), q_up_c (by decide)]; exact wb i k i0 i1 k0 k1
    · show (q_up (q_up m6 195 j w) 188 12 (m6 188 10)) 197 d = A.2.2.1 d
      rw [q_up_c (by decide), q_up_c (by decide)]; exact wc d d0 d1
    · show (q_up (q_up m6 195 j w) 188 12 (m6 188 10)) 188 10 = A.2.2.2.1
      rw [q_up_i (by decide), q_up_c (by decide)]; exact wd
    · show (q_up (q_up m6 195 j w) 188 12 (m6 188 10)) 188 12 = A.2.2.2.1
      rw [q_up_s]; exact wd
  · rintro z z1 z2 r4 b4 m4 ⟨e4, f4⟩ _ z4
    exact no m4 (fun y => y.2.2.2 (by rw [← e4]; exact z4)) (w0.fr f4 (by unfold x_lf; omega)) (p0.fr f4 (by unfold x_Mr x_lf; omega)) (f0.tr (f4.mono xl))
/-- the class's law and the reference's are alike; how often jars came -/
def l_LW (c : Nat) (m : qm) : Prop := (∃ C, l_cC m C ∧ l_cR m C) ∧ m 188 51 ≤ c
theorem l_LW_f (c : Nat) : i_Lf (l_LW c) := by
  rintro X m m' ⟨⟨C, h1, h2⟩, h3⟩ hf hd
  refine ⟨⟨C, h1.fr hf (fun c i z => hd c i (by unfold x_L; omega)), h2.fr hf (fun c i z => hd c i (by unfold x_L; omega))⟩, ?_⟩
  rw [hf 188 51 (hd _ _ (by unfold x_L; omega))]; exact h3
theorem op_wax {c k : Nat} {b : Int} {m : qm} (I : i_I (l_LW c) k m) (hk : k ≤ 600) (j w : Int) :
    q_Ev yX11_wax cX11_wax 3 (some .boolean) 4 0 0 [(2, 0), (0, j), (0, w)] (q_sh0, q_rb b, m) (qK (q_rb b) (fun r m1 => q_Ev yX12_wax cX12_wax 3 (some .boolean) 72 0 0 [(2, 188), (0, j), (0, w)] (q_sh0, q_rb b, m1) (i_O (l_LW c) (k + 1) r))) := by
  have I2 := I
  obtain ⟨n, t, p, a, x, r, s, u, kk, l⟩ := I2
  obtain ⟨T1, T2, T3⟩ := a_T_of t p
  obtain ⟨W1, W2, W3⟩ := a_N_of a
  obtain ⟨P1, P2, P3⟩ := a_U_of u
  obtain ⟨C, C1, C2⟩ := l.1
  refine (cl_wax T1 W1 P1 T3 W3 P3 C1 j w).post ?_
  rintro r1 m1 ⟨rfl, c1, c2, c4⟩
  refine i_O_ofE ((rf_wax (T2.fr c4 (by unfold x_wC x_Cr; omega)) (W2.fr c4 (by unfold x_wC x_Cr; omega)) (P2.fr c4 (by unfold x_Mr x_wC x_Cr; omega)) T3 W3 P3 (by omega) (C2.fr c4 (by unfold x_wC x_Cr; omega)) j w).postE ?_)
  rintro r2 m2 ⟨rfl, d1, d2, d4⟩
  refine ⟨rfl, i_I.wat (l_LW_f c) t p x s kk l c4 d4 (by intro c i; unfold x_B x_T x_P x_X x_S x_K x_L x_wC x_Cr; omega) (by intro c i; unfold x_B x_T x_P x_X x_S x_K x_L x_wM x_lf x_Mr; omega) (by intro c i; unfold x_wM x_lf x_Mr; omega) c1 d1 ?_ c2 d2 ?_ ?_⟩
  · split
    · rename_i ok; exact (W3.wax ok.2.1).mo (by omega)
    · exact W3.mo (by omega)
  · split
    · exact (a_PV.rem ⟨P1.2.1, P1.2.2.1⟩ W3 P3).mo (by omega)
    · exact P3.mo (by omega)
  · exact (r.fr c4 (by intro c i; unfold x_R x_wC x_Cr; omega)).fr d4 (by intro c i; unfold x_R x_wM x_lf x_Mr; omega)
