/-! ===== jar and row: both sides joined, through the law's own methods ===== -/
theorem q_EvC.mono {y : MethodName} {cc : ByteArray} {nL : Nat} {rt : Option FieldType} {hh : List (Nat × Nat × Nat × Nat)} {d kc ks : Nat} {as : List qv} {σ : qh} {K K' : Int → qh → Prop} (h : q_EvC y cc nL rt hh d kc ks as σ K) (hk : ∀ r σ, K r σ → K' r σ) : q_EvC y cc nL rt hh d kc ks as σ K' := by
  intro l htr D cid ad sz hg ha
  have := h l htr D cid ad sz hg ha
  intro p e a1 a2 a3 s m args below a4 a5 a6 a7
  obtain ⟨k, o, b1, b2, b3, b4⟩ := this p e a1 a2 a3 s m args below a4 a5 a6 a7
  exact ⟨k, o, b1, b2, b3, b4.1.mono hk, b4.2⟩
theorem q_EvC.post {y : MethodName} {cc : ByteArray} {nL : Nat} {rt : Option FieldType} {hh : List (Nat × Nat × Nat × Nat)} {d kc ks : Nat} {as : List qv} {σ : qh} {rf : qm} {P P' : Int → qm → Prop} (h : q_EvC y cc nL rt hh d kc ks as σ (qK rf P)) (hk : ∀ r m, P r m → P' r m) : q_EvC y cc nL rt hh d kc ks as σ (qK rf P') := h.mono (fun r σ ⟨m, e, p⟩ => ⟨m, e, hk r m p⟩)
abbrev x_jA (c i : Int) : Prop := c = 152 ∨ c = 153 ∨ c = 225 ∨ x_zM c i
theorem op_jar {c k : Nat} {b : Int} {m : qm} (I : i_I (l_LW c) k m) (hk : k ≤ 600) (j v : Int) :
    q_EvC yL_jar cL_jar 5 (some .int) [(0, 10, 13, 13)] 12 1 6 [(2, 0), (0, j), (0, v), (2, 225)] (q_sh0, q_rb b, m) (qK (q_rb b) (fun r m1 => q_Ev yX12_jar cX12_jar 3 (some .int) 72 0 0 [(2, 188), (0, j), (0, v)] (q_sh0, q_rb b, m1) (qE (fun r' m2 => m2 188 17 = r ∧ (r = 0 → m2 225 0 = r') ∧ i_I (l_LW c) (k + 1) m2)))) := by
  have I2 := I
  obtain ⟨n, t, p, a, x, r, s, u, kk, l⟩ := I2
  obtain ⟨T1, T2, T3⟩ := a_T_of t p
  obtain ⟨W1, W2, W3⟩ := a_N_of a
  obtain ⟨C, C1, C2⟩ := l.1
  have en := T1.1
  have fin : ∀ m2, q_fx x_jA m m2 → i_I (l_LW c) (k + 1) m2 := fun m2 f => I.keep (l_LW_f c) f (by intro c i; simp only [x_A, x_T, x_P, x_N, x_X, x_S, x_U, x_K, x_L, x_R]; omega)
  have R : ∀ m1, q_fx (fun c _ => c = 152 ∨ c = 153 ∨ c = 225) m m1 → q_Ev yX12_jar cX12_jar 3 (some .int) 72 0 0 [(2, 188), (0, j), (0, v)] (q_sh0, q_rb b, m1) (qE (fun r m' => (((0 ≤ j ∧ j < n) ∧ (0 ≤ v ∧ v ≤ 7)) → r = z_v (a_Tof m) (a_of m) C j v ∧ m' 188 17 = 0) ∧ (¬ ((0 ≤ j ∧ j < n) ∧ (0 ≤ v ∧ v ≤ 7)) → m' 188 17 = 1) ∧ q_fx x_zM m1 m')) := fun m1 f =>
    rf_jar (T2.fr f (by intro c i; omega)) (W2.fr f (by intro c i; omega)) T3 W3 (by omega) (C2.fr f (by intro c i; omega))
  by_cases ok : (0 ≤ j ∧ j < (n : Int)) ∧ (0 ≤ v ∧ v ≤ 7)
  · refine (lj_ok (cl_jar T1 W1 T3 W3 C1 ok.1 ok.2)).post ?_
    rintro r1 m1' ⟨rfl, r0, m1, ⟨rfl, f1⟩, rfl⟩
    have f : q_fx (fun c _ => c = 152 ∨ c = 153 ∨ c = 225) m (q_up m1 225 0 (z_v (a_Tof m) (a_of m) C j v)) := (f1.mono (fun c i z => by omega)).up (by omega)
    refine (R _ f).postE ?_
    rintro r2 m2 ⟨e1, -, f3⟩
    obtain ⟨rfl, e17⟩ := e1 ok
    refine ⟨e17, fun _ => ?_, fin m2 ((f.mono (fun c i z => by unfold x_jA; omega)).tr (f3.mono (fun c i z => by unfold x_jA; omega)))⟩
    rw [f3 225 0 (by omega)]
    exact q_up_s
  · refine (lj_thr (by rw [en]; exact ok)).post ?_
    rintro r1 m1 ⟨rfl, rfl⟩
    refine (R _ q_fx.rf).postE ?_
    rintro r2 m2 ⟨-, e2, f3⟩
    exact ⟨e2 ok, fun z => absurd z (by decide), fin m2 (f3.mono (fun c i z => by unfold x_jA; omega))⟩
theorem op_row {c k : Nat} {b : Int} {m : qm} (I : i_I (l_LW c) k m) (v : Int) :
    q_EvC yL_row cL_row 4 (some .int) [(0, 9, 12, 13)] 12 1 6 [(2, 0), (0, v), (2, 225)] (q_sh0, q_rb b, m) (qK (q_rb b) (fun r m1 => q_Ev yX12_row cX12_row 2 (some .int) 2 0 0 [(2, 188), (0, v)] (q_sh0, q_rb b, m1) (qE (fun r' m2 => m2 188 17 = r ∧ (r = 0 → m2 225 0 = r') ∧ i_I (l_LW c) (k + 1) m2)))) := by
  have I2 := I
  obtain ⟨n, t, p, a, x, r, s, u, kk, l⟩ := I2
  obtain ⟨g1, g2, g3, g4⟩ := r
  have fin : ∀ m2, q_fx x_jA m m2 → i_I (l_LW c) (k + 1) m2 := fun m2 f => I.keep (l_LW_f c) f (by intro c i; simp only [x_A, x_T, x_P, x_N, x_X, x_S, x_U, x_K, x_L, x_R]; omega)
  have toE : ∀ {P P' : Int → qm → Prop} {m1 : qm}, q_Ev yX12_row cX12_row 2 (some .int) 2 0 0 [(2, 188), (0, v)] (q_sh0, q_rb b, m1) (qK (q_rb b) P) → (∀ r m, P r m → P' r m) → q_Ev yX12_row cX12_row 2 (some .int) 2 0 0 [(2, 188), (0, v)] (q_sh0, q_rb b, m1) (qE P') := fun h hp => h.mono (fun r σ ⟨m2, e, q⟩ => ⟨b, m2, e, hp r m2 q⟩)
  by_cases ok : 0 ≤ v ∧ v < m 0 16
  · refine (lr_ok (cl_row ok (by omega))).post ?_
    rintro r1 m1' ⟨rfl, r0, m1, ⟨rfl, rfl⟩, rfl⟩
    have f : q_fx (fun c _ => c = 225) m1 (q_up m1 225 0 (m1 169 v)) := q_fx.rf.up rfl
    refine toE (rf_row (by rw [f 188 16 (by omega)]; exact g2) (by rw [f 188 16 (by omega)]; exact g3)) ?_
    rintro r2 m2 ⟨e1, -, f3⟩
    rw [f 188 16 (by omega)] at e1
    obtain ⟨e2, e17⟩ := e1 (by omega)
    refine ⟨e17, fun _ => ?_, fin m2 ((f.mono (fun c i z => by unfold x_jA; omega)).tr (f3.mono (fun c i z => by unfold x_jA; omega)))⟩
    rw [f3 225 0 (by omega), e2, f 199 v (by omega), q_up_s]
    exact g4 v (by omega) (by omega)
  · refine (lr_thr ok).post ?_
    rintro r1 m1 ⟨rfl, rfl⟩
    refine toE (rf_row g2 g3) ?_
    rintro r2 m2 ⟨-, e2, f3⟩
    exact ⟨e2 (by omega), fun z => absurd z (by decide), fin m2 (f3.mono (fun c i z => by unfold x_jA; omega))⟩
