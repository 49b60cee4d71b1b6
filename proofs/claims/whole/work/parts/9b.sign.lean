theorem bv_b1 (X : BitVec 32) (k : Nat) (hk : k ≤ 24) : ((X >>> k) &&& 255#32) = ((X.sshiftRight k).setWidth 8).setWidth 32 := by
  apply BitVec.eq_of_getLsbD_eq
  intro i hi
  have e : (255#32).getLsbD i = decide (i < 8) := by
    have : ∀ j : Fin 32, (255#32).getLsbD j.val = decide (j.val < 8) := by decide
    exact this ⟨i, hi⟩
  rw [BitVec.getLsbD_and, e, BitVec.getLsbD_ushiftRight, BitVec.getLsbD_setWidth, BitVec.getLsbD_setWidth, BitVec.getLsbD_sshiftRight]
  by_cases h8 : i < 8
  · rw [decide_eq_true h8, decide_eq_true hi, decide_eq_false (show ¬ 32 ≤ i by omega), if_pos (by omega)]
    simp
  · rw [decide_eq_false h8]
    simp
theorem bv_b2 (B : BitVec 8) : (B.setWidth 32).toInt = B.toInt % 256 ∧ -128 ≤ B.toInt ∧ B.toInt ≤ 127 := by
  have h := B.isLt
  have e : (B.setWidth 32).toNat = B.toNat := by rw [BitVec.toNat_setWidth]; omega
  rw [BitVec.toInt_eq_toNat_cond, BitVec.toInt_eq_toNat_cond, e]
  split <;> split <;> omega
theorem q_byte {v s : Int} (hs : s = 0 ∨ s = 8 ∨ s = 16 ∨ s = 24) : q_oiand (q_oiushr v s) 255 = q_oi2b (q_oishr v s) % 256 ∧ -128 ≤ q_oi2b (q_oishr v s) ∧ q_oi2b (q_oishr v s) ≤ 127 := by
  have key : ∀ (x : Int32) (k : Nat) (b : Int32), k ≤ 24 → (x.toUInt32 >>> (b.toUInt32 &&& Int32.toUInt32 31)).toInt32.toBitVec = x.toBitVec >>> k → (x >>> (b &&& 31)).toBitVec = x.toBitVec.sshiftRight k → ((x.toUInt32 >>> (b.toUInt32 &&& Int32.toUInt32 31)).toInt32 &&& Int32.ofInt 255).toInt = (x >>> (b &&& 31)).toInt8.toInt32.toInt % 256 ∧ -128 ≤ (x >>> (b &&& 31)).toInt8.toInt32.toInt ∧ (x >>> (b &&& 31)).toInt8.toInt32.toInt ≤ 127 := by
    intro x k b hk h1 h2
    have e1 : ((x.toUInt32 >>> (b.toUInt32 &&& Int32.toUInt32 31)).toInt32 &&& Int32.ofInt 255).toInt = (((x.toBitVec.sshiftRight k).setWidth 8).setWidth 32).toInt := by
      rw [← bv_b1 x.toBitVec k hk, ← h1]
      rfl
    have e2 : (x >>> (b &&& 31)).toInt8.toInt32.toInt = ((x.toBitVec.sshiftRight k).setWidth 8).toInt := by
      rw [Int8.toInt_toInt32, ← h2]
      show ((x >>> (b &&& 31)).toBitVec.signExtend 8).toInt = _
      rw [BitVec.signExtend_eq_setWidth_of_le _ (by decide)]
    rw [e1, e2]
    exact bv_b2 _
  unfold q_oiand q_oiushr q_oi2b q_oishr
  rw [Int32.ofInt_toInt, Int32.ofInt_toInt]
  rcases hs with rfl | rfl | rfl | rfl
  · exact key (Int32.ofInt v) 0 (Int32.ofInt 0) (by decide) rfl rfl
  · exact key (Int32.ofInt v) 8 (Int32.ofInt 8) (by decide) rfl rfl
  · exact key (Int32.ofInt v) 16 (Int32.ofInt 16) (by decide) rfl rfl
  · exact key (Int32.ofInt v) 24 (Int32.ofInt 24) (by decide) rfl rfl
theorem vp_nb {x : Int} : vp_nar .byte (Int32.ofInt (q_oi2b x)) = Int32.ofInt (q_oi2b x) := by
  unfold q_oi2b
  rw [Int32.ofInt_toInt]
  show (Int32.ofInt x).toInt8.toInt32.toInt8.toInt32 = (Int32.ofInt x).toInt8.toInt32
  rw [Int8.toInt8_toInt32]
/-! ===== sign ===== -/
theorem op_sign {LW : qm → Prop} (hL : i_Lf LW) {k : Nat} {b : Int} {m : qm} (I : i_I LW k m) (v : Int) :
    q_Ev yX11_sign cX11_sign 3 (some .int) 2 0 0 [(2, 0), (0, v)] (q_sh0, q_rb b, m) (qK (q_rb b) (fun r m1 => q_Ev yX12_sign cX12_sign 3 (some .int) 1 0 0 [(2, 188), (0, v)] (q_sh0, q_rb b, m1) (i_O LW (k + 1) r))) := by
  have I2 := I
  obtain ⟨n, t, p, a, x, r, s, u, kk, l⟩ := I2
  have hb : (1500 * (k : Int)) ≤ 1500 * ((k + 1 : Nat) : Int) := by omega
  obtain ⟨x1, x2, x3, x4⟩ := x
  generalize hE : m 188 14 = E at x1 x2 x3 x4
  by_cases ok : E + 4 ≤ 80
  · have bt : ∀ q : Int, 0 ≤ q → q < 4 → q_oiand (q_oiushr v (24 - 8 * q)) 255 = q_oi2b (q_oishr v (24 - 8 * q)) % 256 ∧ -128 ≤ q_oi2b (q_oishr v (24 - 8 * q)) ∧ q_oi2b (q_oishr v (24 - 8 * q)) ≤ 127 := fun q a b => q_byte (by omega)
    refine q_Ev.post (P := fun r m1 => r = E + 4 ∧ m1 145 1 = E + 4 ∧ (∀ i, 0 ≤ i → i < E → m1 146 i = m 146 i) ∧ (∀ q : Int, 0 ≤ q → q < 4 → m1 146 (E + q) = q_oiand (q_oiushr v (24 - 8 * q)) 255) ∧ q_fx (fun c i => c = 146 ∨ (c = 145 ∧ i = 1)) m m1) ?_ ?_
    · refine q_enter (by decide +kernel) (by simp) (Nat.le_of_ble_eq_true rfl) ?_
      refine bkX11_sign_0 (q_in_of (by omega) (by omega)) (fun _ => ?_) (fun z => absurd z (by omega))
      have go : ∀ d : Nat, ∀ (q : Int) (m' : qm), 0 ≤ q → q + d = 4 → m' 145 1 = E + q → (∀ i, 0 ≤ i → i < E → m' 146 i = m 146 i) → (∀ y : Int, 0 ≤ y → y < q → m' 146 (E + y) = q_oiand (q_oiushr v (24 - 8 * y)) 255) → q_fx (fun c i => c = 146 ∨ (c = 145 ∧ i = 1)) m m' → q_At yX11_sign cX11_sign 3 (some .int) 2 0 0 (qK (q_rb b) (fun r m1 => r = E + 4 ∧ m1 145 1 = E + 4 ∧ (∀ i, 0 ≤ i → i < E → m1 146 i = m 146 i) ∧ (∀ q : Int, 0 ≤ q → q < 4 → m1 146 (E + q) = q_oiand (q_oiushr v (24 - 8 * q)) 255) ∧ q_fx (fun c i => c = 146 ∨ (c = 145 ∧ i = 1)) m m1)) 19 [(2, 0), (0, v), (0, 24 - 8 * q)] [] (q_sh0, q_rb b, m') := by
        intro d
        induction d with
        | zero =>
          intro q m' q0 hq e1 e2 e3 fx
          have : q = 4 := by omega
          subst this
          exact bkX11_sign_19 (P2 := fun _ _ => True) (fun _ => ⟨e1, e1, e2, fun y a b => e3 y a b, fx⟩) (fun z => absurd z (by omega)) (fun z => absurd z (by omega)) (fun z => absurd z (by omega))
        | succ d ih =>
          intro q m' q0 hq e1 e2 e3 fx
          refine bkX11_sign_19 (P2 := fun _ m2 => m2 = q_up (q_up m' 146 (E + q) (q_oiand (q_oiushr v (24 - 8 * q)) 255)) 145 1 (E + q + 1)) (fun z => absurd z (by omega)) (fun _ => ?_) (fun _ _ _ _ _ => q_in_of (by omega) (by omega)) ?_
          · refine q_enter (by decide +kernel) (by simp) (Nat.le_of_ble_eq_true rfl) ?_
            refine bkX6_append_0 (fun z => absurd z (by omega)) (fun _ => ⟨by omega, q_in_of (by omega) (by omega)⟩) (fun _ => ?_)
            rw [e1]
          · rintro _ r2 m2 rfl _
            rw [show 24 - 8 * q + -8 = 24 - 8 * (q + 1) by omega]
            refine ih (q + 1) _ (by omega) (by omega) (by rw [q_up_s]; omega) (fun i a b => ?_) (fun y a b => ?_) ((fx.up (Or.inl rfl)).up (Or.inr ⟨rfl, rfl⟩))
            · rw [q_up_c (by decide), q_up_i (by omega)]; exact e2 i a b
            · rw [q_up_c (by decide)]
              by_cases hy : y = q
              · subst hy; exact q_up_s
              · rw [q_up_i (by omega)]; exact e3 y a (by omega)
      have := go 4 0 m (by omega) (by omega) (by omega) (fun _ _ _ => rfl) (fun y a b => absurd b (by omega)) q_fx.rf
      exact this
    · rintro r1 m1 ⟨er, h1, h2, h3, f1⟩
      rw [er]
      have e14 : m1 188 14 = E := (f1 _ _ (by omega)).trans hE
      refine i_O_of (b := b) (q_Ev.post (P := fun r m2 => r = E + 4 ∧ m2 188 14 = E + 4 ∧ (∀ i, 0 ≤ i → i < E → m2 198 i = m 198 i) ∧ (∀ q : Int, 0 ≤ q → q < 4 → m2 198 (E + q) = q_oi2b (q_oishr v (24 - 8 * q))) ∧ q_fx (fun c i => c = 198 ∨ (c = 188 ∧ (i = 14 ∨ i = 17))) m1 m2) ?_ ?_)
      · refine q_enter (by decide +kernel) (by simp) (Nat.le_of_ble_eq_true rfl) ?_
        refine bkX12_sign_0 (q_in_of (by omega) (by omega)) (fun _ => ?_) (fun z => absurd z (by omega))
        have go : ∀ d : Nat, ∀ (q : Int) (m' : qm), 0 ≤ q → q + d = 4 → m' 188 14 = E + q → (∀ i, 0 ≤ i → i < E → m' 198 i = m 198 i) → (∀ y : Int, 0 ≤ y → y < q → m' 198 (E + y) = q_oi2b (q_oishr v (24 - 8 * y))) → q_fx (fun c i => c = 198 ∨ (c = 188 ∧ (i = 14 ∨ i = 17))) m1 m' → q_At yX12_sign cX12_sign 3 (some .int) 1 0 0 (qK (q_rb b) (fun r m2 => r = E + 4 ∧ m2 188 14 = E + 4 ∧ (∀ i, 0 ≤ i → i < E → m2 198 i = m 198 i) ∧ (∀ q : Int, 0 ≤ q → q < 4 → m2 198 (E + q) = q_oi2b (q_oishr v (24 - 8 * q))) ∧ q_fx (fun c i => c = 198 ∨ (c = 188 ∧ (i = 14 ∨ i = 17))) m1 m2)) 20 [(2, 188), (0, v), (0, 3 - q)] [] (q_sh0, q_rb b, m') := by
          intro d
          induction d with
          | zero =>
            intro q m' q0 hq e1 e2 e3 fx
            have : q = 4 := by omega
            subst this
            exact bkX12_sign_20 (fun _ => ⟨e1, e1, e2, fun y a b => e3 y a b, fx⟩) (fun z => absurd z (by omega)) (fun z => absurd z (by omega))
          | succ d ih =>
            intro q m' q0 hq e1 e2 e3 fx
            refine bkX12_sign_20 (fun z => absurd z (by omega)) (fun _ => ⟨q_in_of (by omega) (by omega), q_in_of (by omega) (by omega), by omega, vp_nb, q_in_of (by omega) (by omega)⟩) (fun _ => ?_)
            rw [e1, show 8 * (3 - q) = 24 - 8 * q by omega, show 3 - q + -1 = 3 - (q + 1) by omega]
            refine ih (q + 1) _ (by omega) (by omega) (by rw [q_up_c (by decide), q_up_s]; omega) (fun i a b => ?_) (fun y a b => ?_) ((fx.up (by omega)).up (Or.inl rfl))
            · rw [q_up_i (by omega), q_up_c (by decide)]; exact e2 i a b
            · by_cases hy : y = q
              · subst hy; exact q_up_s
              · rw [q_up_i (by omega), q_up_c (by decide)]; exact e3 y a (by omega)
        have := go 4 0 (q_up m1 188 17 0) (by omega) (by omega) (by rw [q_up_i (by decide)]; omega) (fun i _ _ => (q_up_c (by decide)).trans (f1 _ _ (by omega))) (fun y a b => absurd b (by omega)) (q_fx.rf.up (by omega))
        exact this
      · rintro r2 m2 ⟨rfl, g1, g2, g3, f2⟩
        refine ⟨rfl, ?_⟩
        have hf : q_fx (fun c i => c = 146 ∨ (c = 145 ∧ i = 1) ∨ c = 198 ∨ (c = 188 ∧ (i = 14 ∨ i = 17))) m m2 := (f1.mono (fun c i z => by omega)).tr (f2.mono (fun c i z => by omega))
        refine ⟨n, t.fr hf (by intro c i; unfold x_T; omega), p.fr hf (by intro c i; unfold x_P; omega), (a.fr hf (by intro c i; unfold x_N; omega)).mo hb, ⟨?_, by omega, by omega, fun i i0 i1 => ?_⟩, r.fr hf (by intro c i; unfold x_R; omega), s.fr hf (by intro c i; unfold x_S; omega), (u.fr hf (by intro c i; unfold x_U; omega)).mo hb, (kk.fr hf (by intro c i; unfold x_K; omega)).mo hb, hL _ _ _ l hf (by intro c i; unfold x_L; omega)⟩
        · rw [g1, f2 _ _ (by omega)]; exact h1
        · rw [f2 146 i (by omega)]
          by_cases hi : i < E
          · rw [h2 i i0 hi, g2 i i0 hi]; exact x4 i i0 hi
          · have e : i = E + (i - E) := by omega
            rw [e, h3 (i - E) (by omega) (by omega), g3 (i - E) (by omega) (by omega)]
            exact bt (i - E) (by omega) (by omega)
  · refine q_enter (by decide +kernel) (by simp) (Nat.le_of_ble_eq_true rfl) ?_
    refine bkX11_sign_0 (q_in_of (by omega) (by omega)) (fun z => absurd z (by omega)) (fun _ => ?_)
    refine i_O_of (b := b) (q_enter (by decide +kernel) (by simp) (Nat.le_of_ble_eq_true rfl) ?_)
    exact bkX12_sign_0 (q_in_of (by omega) (by omega)) (fun z => absurd z (by omega)) (fun _ => ⟨rfl, I.no hL⟩)
