/-! ===== jar() and row(): what they answer ===== -/
def z_v (T : a_T) (A : a_W) (C : List Int) (j v : Int) : Int := if v = 0 then A.1.1 j else if v = 1 then T.1 j else if v = 2 then T.2.2.2.1 j else if v = 3 then T.2.1 j else if v = 4 then T.2.2.1 j else if v = 5 then T.2.2.2.2 j else if v = 6 then A.1.2.1 j else l_val C T A j
section JAR
variable {b B : Int} {m : qm} {n : Nat} {T : a_T} {A : a_W} {C : List Int}
theorem z_v0 {j : Int} : z_v T A C j 0 = A.1.1 j := by unfold z_v; rw [if_pos rfl]
theorem z_v1 {j : Int} : z_v T A C j 1 = T.1 j := by unfold z_v; rw [if_neg (by decide), if_pos rfl]
theorem z_v2 {j : Int} : z_v T A C j 2 = T.2.2.2.1 j := by unfold z_v; rw [if_neg (by decide), if_neg (by decide), if_pos rfl]
theorem z_v3 {j : Int} : z_v T A C j 3 = T.2.1 j := by unfold z_v; rw [if_neg (by decide), if_neg (by decide), if_neg (by decide), if_pos rfl]
theorem z_v4 {j : Int} : z_v T A C j 4 = T.2.2.1 j := by unfold z_v; rw [if_neg (by decide), if_neg (by decide), if_neg (by decide), if_neg (by decide), if_pos rfl]
theorem z_v5 {j : Int} : z_v T A C j 5 = T.2.2.2.2 j := by unfold z_v; rw [if_neg (by decide), if_neg (by decide), if_neg (by decide), if_neg (by decide), if_neg (by decide), if_pos rfl]
theorem z_v6 {j : Int} : z_v T A C j 6 = A.1.2.1 j := by unfold z_v; rw [if_neg (by decide), if_neg (by decide), if_neg (by decide), if_neg (by decide), if_neg (by decide), if_neg (by decide), if_pos rfl]
theorem z_v7 {j v : Int} (h : 7 ≤ v) : z_v T A C j v = l_val C T A j := by unfold z_v; rw [if_neg (by omega), if_neg (by omega), if_neg (by omega), if_neg (by omega), if_neg (by omega), if_neg (by omega), if_neg (by omega)]
theorem cl_jar (cT : c_T m n T) (cW : c_W m 5 n A) (t : a_TV n T) (vA : a_V B n T.1 A) (hC : l_cC m C) {j v : Int} (hj : 0 ≤ j ∧ j < n) (hv : 0 ≤ v ∧ v ≤ 7) : q_Ev yX11_jar cX11_jar 3 (some .int) 4 0 0 [(2, 0), (0, j), (0, v)] (q_sh0, q_rb b, m) (qK (q_rb b) (fun r m' => r = z_v T A C j v ∧ q_fx (fun c _ => c = 152 ∨ c = 153) m m')) := by
  have h9 := t.1
  have wj := cW.1 j hj.1 hj.2
  have e0 : m 8 j = A.1.1 j := wj.1.1
  have e1 : m 2 j = T.1 j := cT.2.1 j hj.1 hj.2
  have e2 : m 10 j = T.2.2.2.1 j := cT.2.2.2.2.1 j hj.1 hj.2
  have e3 : m 3 j = T.2.1 j := cT.2.2.1 j hj.1 hj.2
  have e4 : m 4 j = T.2.2.1 j := cT.2.2.2.1 j hj.1 hj.2
  have e5 : m 11 j = T.2.2.2.2 j := cT.2.2.2.2.2 j hj.1 hj.2
  have e6 : m 9 j = A.1.2.1 j := wj.2
  have en := cT.1
  have hi : 0 ≤ j ∧ j < 9 := by omega
  refine q_enter (by decide +kernel) (by simp) (Nat.le_of_ble_eq_true rfl) ?_
  refine bkX11_jar_0 (P10 := fun r m' => r = l_val C T A j ∧ q_fx (fun c _ => c = 152 ∨ c = 153) m m') (fun _ _ => hi) (fun _ z => ⟨by rw [z, e0, z_v0], q_fx.rf⟩) (fun _ _ _ => hi) (fun _ _ z => ⟨by rw [z, e1, z_v1], q_fx.rf⟩) (fun _ _ _ _ => hi) (fun _ _ _ z => ⟨by rw [z, e2, z_v2], q_fx.rf⟩) (fun _ _ _ _ _ => hi) (fun _ _ _ _ z => ⟨by rw [z, e3, z_v3], q_fx.rf⟩) (fun _ _ _ _ _ _ => hi) (fun _ _ _ _ _ z => ⟨by rw [z, e4, z_v4], q_fx.rf⟩) (fun _ _ _ _ _ _ _ => hi) (fun _ _ _ _ _ _ z => ⟨by rw [z, e5, z_v5], q_fx.rf⟩) (fun _ _ _ _ _ _ _ _ => hi) (fun _ _ _ _ _ _ _ z => ⟨by rw [z, e6, z_v6], q_fx.rf⟩) (fun _ _ _ _ _ _ _ _ _ => cl_lawOf cT cW t vA hC hj) (fun _ _ _ _ _ _ _ _ _ r10 m10 y _ => ⟨by rw [y.1, z_v7 (by omega)], y.2⟩) (fun _ _ _ _ _ _ _ _ z => z (by omega)) (fun z => z (by omega))
theorem sp_lostM {m : qm} : q_Ev yX12_lost cX12_lost 1 (some .int) 1 0 0 [(2, 188)] (q_sh0, q_rb b, m) (qK (q_rb b) (fun r m' => r = 0 ∧ m' = q_up m 188 17 1)) := by
  refine q_enter (by decide +kernel) (by simp) (Nat.le_of_ble_eq_true rfl) ?_
  exact bkX12_lost_0 ⟨rfl, rfl⟩
abbrev x_zM (c i : Int) : Prop := c = 188 ∧ ((19 ≤ i ∧ i ≤ 22) ∨ i = 26 ∨ i = 17)
theorem rf_jar (cT : r_T m n T) (cW : r_W m n A) (t : a_TV n T) (vA : a_V B n T.1 A) (hB : B ≤ 1000000) (hC : l_cR m C) {j v : Int} : q_Ev yX12_jar cX12_jar 3 (some .int) 72 0 0 [(2, 188), (0, j), (0, v)] (q_sh0, q_rb b, m) (qE (fun r m' => (((0 ≤ j ∧ j < n) ∧ (0 ≤ v ∧ v ≤ 7)) → r = z_v T A C j v ∧ m' 188 17 = 0) ∧ (¬ ((0 ≤ j ∧ j < n) ∧ (0 ≤ v ∧ v ≤ 7)) → m' 188 17 = 1) ∧ q_fx x_zM m m')) := by
  have h9 := t.1
  have en := cT.1
  have g0 : q_fx x_zM m (q_up m 188 17 0) := q_fx.rf.up ⟨rfl, by omega⟩
  have g1 : q_fx x_zM m (q_up (q_up m 188 17 0) 188 17 1) := g0.up ⟨rfl, by omega⟩
  have hi : (0 ≤ j ∧ j ≤ m 188 0 - 1) → 0 ≤ j ∧ j < 9 := fun z => by omega
  have hn : (0 ≤ j ∧ j ≤ m 188 0 - 1) → 0 ≤ j ∧ j < n := fun z => by omega
  have fin : ∀ x, ((0 ≤ j ∧ j ≤ m 188 0 - 1) → (0 ≤ v ∧ v ≤ 7) → x = z_v T A C j v) → (0 ≤ j ∧ j ≤ m 188 0 - 1) → (0 ≤ v ∧ v ≤ 7) → (((0 ≤ j ∧ j < n) ∧ (0 ≤ v ∧ v ≤ 7)) → x = z_v T A C j v ∧ (q_up m 188 17 0) 188 17 = 0) ∧ (¬ ((0 ≤ j ∧ j < n) ∧ (0 ≤ v ∧ v ≤ 7)) → (q_up m 188 17 0) 188 17 = 1) ∧ q_fx x_zM m (q_up m 188 17 0) := fun x hx a c => ⟨fun _ => ⟨hx a c, q_up_s⟩, fun z => absurd ⟨hn a, c⟩ z, g0⟩
  have cT' : r_T (q_up m 188 17 0) n T := cT.fr g0 (by intro c i; unfold x_zM; omega)
  have cW' : r_W (q_up m 188 17 0) n A := cW.fr g0 (by intro c i; unfold x_zM; omega)
  have hC' : l_cR (q_up m 188 17 0) C := hC.fr g0 (by intro c i; unfold x_zM; omega)
  refine q_enter (by decide +kernel) (by simp) (Nat.le_of_ble_eq_true rfl) ?_
  refine bkX12_jar_0 (P10 := fun r m' => r = l_val C T A j ∧ q_fx x_lf (q_up m 188 17 0) m') (P11 := fun r m' => r = 0 ∧ m' = q_up (q_up m 188 17 0) 188 17 1) (P12 := fun r m' => r = 0 ∧ m' = q_up (q_up m 188 17 0) 188 17 1) (q_in_of (by omega) (by omega)) (fun a _ _ => hi a) (fun a c z => fin _ (fun a _ => ?_) a c) (fun a _ _ _ => hi a) (fun a c _ z => fin _ (fun a _ => ?_) a c) (fun a _ _ _ _ => hi a) (fun a c _ _ z => fin _ (fun a _ => ?_) a c) (fun a _ _ _ _ _ => hi a) (fun a c _ _ _ z => fin _ (fun a _ => ?_) a c) (fun a _ _ _ _ _ _ => hi a) (fun a c _ _ _ _ z => fin _ (fun a _ => ?_) a c) (fun a _ _ _ _ _ _ _ => hi a) (fun a c _ _ _ _ _ z => fin _ (fun a _ => ?_) a c) (fun a _ _ _ _ _ _ _ _ => hi a) (fun a c _ _ _ _ _ _ z => fin _ (fun a _ => ?_) a c) (fun a _ _ _ _ _ _ _ _ => rf_lawFor cT' cW' t vA hB hC' (hn a)) ?_ (fun _ _ => sp_lostM) ?_ (fun _ => sp_lostM) ?_
  · rw [z, z_v0]; exact (cW.1.1 j (hn a).1 (hn a).2).1
  · rw [z, z_v1]; exact cT.2.1 j (hn a).1 (hn a).2
  · rw [z, z_v2]; exact cT.2.2.2.2.1 j (hn a).1 (hn a).2
  · rw [z, z_v3]; exact cT.2.2.1 j (hn a).1 (hn a).2
  · rw [z, z_v4]; exact cT.2.2.2.1 j (hn a).1 (hn a).2
  · rw [z, z_v5]; exact cT.2.2.2.2.2 j (hn a).1 (hn a).2
  · rw [z, z_v6]; exact (cW.1.1 j (hn a).1 (hn a).2).2
  · rintro a c _ _ _ _ _ _ _ r10 b10 m10 ⟨e10, f10⟩ _
    exact ⟨fun _ => ⟨by rw [e10, z_v7 (by omega)], by rw [f10 188 17 (by unfold x_lf; omega), q_up_s]⟩, fun z => absurd ⟨hn a, c⟩ z, g0.tr (f10.mono (by intro c i; unfold x_lf x_zM; omega))⟩
  · rintro a c r11 m11 ⟨e11, rfl⟩ _
    exact ⟨fun z => absurd z.2 c, fun _ => q_up_s, g1⟩
  · rintro a r12 m12 ⟨e12, rfl⟩ _
    exact ⟨fun z => absurd (show 0 ≤ j ∧ j ≤ m 188 0 - 1 by omega) a, fun _ => q_up_s, g1⟩
theorem cl_row {v : Int} (h : 0 ≤ v ∧ v < m 0 16) (h10 : m 0 16 ≤ 10) : q_Ev yX11_row cX11_row 2 (some .int) 1 0 0 [(2, 0), (0, v)] (q_sh0, q_rb b, m) (qK (q_rb b) (fun r m' => r = m 169 v ∧ m' = m)) := by
  refine q_enter (by decide +kernel) (by simp) (Nat.le_of_ble_eq_true rfl) ?_
  exact bkX11_row_0 (fun z => by omega) (fun _ _ => by omega) (fun _ _ => ⟨rfl, rfl⟩) (fun _ z => by omega)
theorem rf_row {v : Int} (h0 : 0 ≤ m 188 16) (h10 : m 188 16 ≤ 10) : q_Ev yX12_row cX12_row 2 (some .int) 2 0 0 [(2, 188), (0, v)] (q_sh0, q_rb b, m) (qK (q_rb b) (fun r m' => ((0 ≤ v ∧ v < m 188 16) → r = m 199 v ∧ m' 188 17 = 0) ∧ (¬ (0 ≤ v ∧ v < m 188 16) → m' 188 17 = 1) ∧ q_fx x_zM m m')) := by
  have g0 : q_fx x_zM m (q_up m 188 17 0) := q_fx.rf.up ⟨rfl, by omega⟩
  have g1 : q_fx x_zM m (q_up (q_up m 188 17 0) 188 17 1) := g0.up ⟨rfl, by omega⟩
  refine q_enter (by decide +kernel) (by simp) (Nat.le_of_ble_eq_true rfl) ?_
  refine bkX12_row_0 (q_in_of (by omega) (by omega)) (fun _ => by omega) (fun z => ⟨fun _ => ⟨rfl, q_up_s⟩, fun y => absurd (show 0 ≤ v ∧ v < m 188 16 by omega) y, g0⟩) (fun _ => sp_lostM) ?_
  rintro a r2 m2 ⟨e2, rfl⟩ _
  exact ⟨fun z => absurd (show 0 ≤ v ∧ v ≤ m 188 16 - 1 by omega) a, fun _ => q_up_s, g1⟩
end JAR
