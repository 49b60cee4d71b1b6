/-! ===== AN ORDER is done ===== -/
abbrev x_oC (c i : Int) : Prop := x_St 5 c i ∨ x_Cr c i ∨ (c = 0 ∧ i = 16) ∨ c = 169 ∨ c = 12 ∨ c = 152 ∨ c = 153
abbrev x_oM (c i : Int) : Prop := x_Go c i ∨ x_Mr c i ∨ (c = 188 ∧ (i = 12 ∨ i = 16 ∨ i = 17)) ∨ c = 199 ∨ c = 197 ∨ x_lf c i
def o_ok (n : Nat) (T : a_T) (C : List Int) (G : qm) (k : Int) (A : a_W) : Int := if G 0 k = 98 then 1 else if G 0 k = 112 then (if 0 < a_can n T A (G 1 k) (G 2 k) (G 3 k) then 1 else 0) else if G 0 k = 119 then (if a_wok n T A C (G 1 k) (G 3 k) then 1 else 0) else (if a_sprok n (G 1 k) 6 (G 3 k) then 1 else 0)
def o_dA (n : Nat) (T : a_T) (C : List Int) (G : qm) (k : Int) (A : a_W) : a_W := if G 0 k = 98 then a_bells n T A (G 3 k).toNat else if G 0 k = 112 then a_pourA n T A (G 1 k) (G 2 k) (G 3 k) else if G 0 k = 119 then (if a_wok n T A C (G 1 k) (G 3 k) then a_wax A (G 1 k) (G 3 k) else A) else (if a_sprok n (G 1 k) 6 (G 3 k) then a_spr A (G 1 k) 6 (a_sprc T A (G 1 k) (G 3 k)) else A)
def o_dP (n : Nat) (T : a_T) (C : List Int) (G : qm) (k : Int) (A : a_W) (P : a_P) : a_P := if G 0 k = 98 then (if 0 < (G 3 k).toNat then a_rem A P else P) else if G 0 k = 112 then a_pourP n T A P (G 1 k) (G 2 k) (G 3 k) else if G 0 k = 119 then (if a_wok n T A C (G 1 k) (G 3 k) then a_rem A P else P) else (if a_sprok n (G 1 k) 6 (G 3 k) then a_rem A P else P)
def o_run (n : Nat) (T : a_T) (C : List Int) (G : qm) : Nat → Int → a_W → a_P → Int × a_W × a_P
  | 0, k, A, P => (k, A, P)
  | f + 1, k, A, P => if o_ok n T C G k A = 0 then (k, o_dA n T C G k A, o_dP n T C G k A P) else o_run n T C G f (k + 1) (o_dA n T C G k A) (o_dP n T C G k A P)
theorem o_ok01 {n : Nat} {T : a_T} {C : List Int} {G : qm} {k : Int} {A : a_W} : o_ok n T C G k A = 0 ∨ o_ok n T C G k A = 1 := by
  unfold o_ok
  repeat' split
  all_goals simp
section ORDX
variable {b B : Int} {m : qm} {n : Nat} {T : a_T} {A : a_W} {P : a_P} {C : List Int} {G : qm} {k : Int}
abbrev o_kv (G : qm) (k : Int) : Prop := (G 0 k = 112 ∨ G 0 k = 119 ∨ G 0 k = 115 ∨ G 0 k = 98) ∧ (0 ≤ G 1 k ∧ G 1 k ≤ 9) ∧ (0 ≤ G 2 k ∧ G 2 k ≤ 9) ∧ (0 ≤ G 3 k ∧ G 3 k ≤ 99)
theorem o_dV (t : a_TV n T) (v : a_V B n T.1 A) (hk : o_kv G k) : a_V (B + o_be G k) n T.1 (o_dA n T C G k A) := by
  unfold o_dA o_be
  by_cases h98 : G 0 k = 98
  · rw [if_pos h98, if_pos h98]
    have := v.bells t (G 3 k).toNat
    rw [show (((G 3 k).toNat : Nat) : Int) = G 3 k by have := hk.2.2.2.1; omega] at this
    exact this
  · rw [if_neg h98, if_neg h98, Int.add_zero]
    by_cases h112 : G 0 k = 112
    · rw [if_pos h112]
      unfold a_pourA
      split
      · rename_i z
        obtain ⟨a1, a2, a3, a4, a5, a6, a7⟩ := a_can_ok z
        exact v.pour t a1 a2 a3 a4 a5 a6
      · exact v
    · rw [if_neg h112]
      by_cases h119 : G 0 k = 119
      · rw [if_pos h119]
        split
        · rename_i z; exact v.wax z.2.1
        · exact v
      · rw [if_neg h119]
        split
        · rename_i z
          have vj := v.1 _ z.1.1 z.1.2
          exact v.spr z.1 z.2.1 (by unfold a_sprc; omega)
        · exact v
theorem o_dPV (hP : 0 ≤ P.1 ∧ P.1 ≤ 12) (v : a_V B n T.1 A) (pv : a_PV B n T.1 P) : a_PV B n T.1 (o_dP n T C G k A P) := by
  unfold o_dP a_pourP
  repeat' split
  all_goals first | exact pv | exact a_PV.rem hP v pv
theorem cl_doStep (cT : c_T m n T) (cW : c_W m 5 n A) (cP : c_P m n P) (t : a_TV n T) (v : a_V B n T.1 A) (pv : a_PV B n T.1 P) (hB : B ≤ 1000000) (hC : l_cC m C) (co : c_O m G) (hk0 : 0 ≤ k ∧ k < G 7 0 ∧ k < 60) (hk : o_kv G k) :
    q_Ev yX11_doStep cX11_doStep 4 (some .boolean) 6 0 0 [(2, 0), (0, k)] (q_sh0, q_rb b, m) (qK (q_rb b) (fun r m1 => r = o_ok n T C G k A ∧ c_W m1 5 n (o_dA n T C G k A) ∧ c_P m1 n (o_dP n T C G k A P) ∧ q_fx x_oC m m1)) := by
  obtain ⟨e5, e8, e6, e7⟩ := co k hk0.1 hk0.2.1
  obtain ⟨hk1, hk2, hk3, hk4⟩ := hk
  refine q_enter (by decide +kernel) (by simp) (Nat.le_of_ble_eq_true rfl) ?_
  by_cases h98 : G 0 k = 98
  · obtain ⟨w, hw⟩ : ∃ w : Nat, G 3 k = w := ⟨(G 3 k).toNat, by omega⟩
    have ew : (G 3 k).toNat = w := by omega
    have mono : A.1.2.2 ≤ (a_bells n T A w).1.2.2 := by
      rw [a_bells_1 w]
      exact (f_it_lost (a_OK t v) w).1
    have post : ∀ r m1, (r = (a_bells n T A w).1.2.2 - A.1.2.2 ∧ c_W m1 5 n (a_bells n T A w) ∧ c_P m1 n (if 0 < w then a_rem A P else P) ∧ i_rc m m1 (some (a_brow n (a_bells n T A w))) ∧ q_fx x_bC m m1) → (1 : Int) = o_ok n T C G k A ∧ c_W m1 5 n (o_dA n T C G k A) ∧ c_P m1 n (o_dP n T C G k A P) ∧ q_fx x_oC m m1 := by
      rintro r m1 ⟨-, c1, c2, -, c4⟩
      unfold o_ok o_dA o_dP
      rw [if_pos h98, if_pos h98, if_pos h98, ew]
      exact ⟨rfl, c1, c2, c4.mono (by intro c i; unfold x_bC x_oC; omega)⟩
    refine bkX11_doStep_0 (P5 := fun _ _ => True) (P8 := fun _ _ => True) (P11 := fun _ _ => True) (by omega) (fun _ => by rw [e8, hw]; exact cl_bells cT cW cP t v pv hB w (by omega)) ?_ (fun _ r2 m2 h2 _ _ => post r2 m2 h2) (fun z => absurd (e5.trans h98) z) (fun z => absurd (e5.trans h98) z) (fun z => absurd (e5.trans h98) z) (fun z => absurd (e5.trans h98) z) (fun z => absurd (e5.trans h98) z) (fun z => absurd (e5.trans h98) z) (fun z => absurd (e5.trans h98) z) (fun z => absurd (e5.trans h98) z) (fun z => absurd (e5.trans h98) z) (fun z => absurd (e5.trans h98) z)
    rintro _ r2 m2 h2 _ z
    exfalso; have := h2.1; omega
  · have n98 : ¬ m 155 k = 98 := by rw [e5]; exact h98
    have e6 := e6 h98
    by_cases h112 : G 0 k = 112
    · have e112 : m 155 k = 112 := by rw [e5]; exact h112
      have post : ∀ r m1, (r = a_can n T A (G 1 k) (G 2 k) (G 3 k) ∧ c_W m1 5 n (a_pourA n T A (G 1 k) (G 2 k) (G 3 k)) ∧ c_P m1 n (a_pourP n T A P (G 1 k) (G 2 k) (G 3 k)) ∧ q_fx x_pC m m1) → ∀ q : Int, (0 ≤ r → q = 1) → (r < 0 → q = 0) → q = o_ok n T C G k A ∧ c_W m1 5 n (o_dA n T C G k A) ∧ c_P m1 n (o_dP n T C G k A P) ∧ q_fx x_oC m m1 := by
        rintro r m1 ⟨er, c1, c2, c4⟩ q q1 q0
        have cz : a_can n T A (G 1 k) (G 2 k) (G 3 k) ≠ 0 := by
          unfold a_can
          repeat' split
          all_goals omega
        unfold o_ok o_dA o_dP
        rw [if_neg h98, if_neg h98, if_neg h98, if_pos h112, if_pos h112, if_pos h112]
        refine ⟨?_, c1, c2, c4.mono (by intro c i; unfold x_pC x_oC x_St; omega)⟩
        split <;> omega
      refine bkX11_doStep_0 (P2 := fun _ _ => True) (P8 := fun _ _ => True) (P11 := fun _ _ => True) (by omega) (fun z => absurd z n98) (fun z => absurd z n98) (fun z => absurd z n98) (fun _ _ => by rw [e6, e7 h112, e8]; exact cl_pour cT cW cP t v pv _ _ _) (fun _ _ r m1 h _ z => post r m1 h 0 (by omega) (by omega)) (fun _ _ r m1 h _ z => post r m1 h 1 (by omega) (by omega)) (fun _ z => absurd e112 z) (fun _ z => absurd e112 z) (fun _ z => absurd e112 z) (fun _ z => absurd e112 z) (fun _ z => absurd e112 z) (fun _ z => absurd e112 z) (fun _ z => absurd e112 z)
    · have n112 : ¬ m 155 k = 112 := by rw [e5]; exact h112
      by_cases h119 : G 0 k = 119
      · have e119 : m 155 k = 119 := by rw [e5]; exact h119
        have n115 : ¬ m 155 k = 115 := by omega
        refine bkX11_doStep_0 (P2 := fun _ _ => True) (P5 := fun _ _ => True) (P8 := fun _ _ => True) (by omega) (fun z => absurd z n98) (fun z => absurd z n98) (fun z => absurd z n98) (fun _ z => absurd z n112) (fun _ z => absurd z n112) (fun _ z => absurd z n112) (fun _ _ z => absurd z n115) (fun _ _ z => absurd z n115) (fun _ _ z => absurd z n115) (fun _ _ _ _ => by rw [e6, e8]; exact cl_wax cT cW cP t v pv hC _ _) ?_ ?_ (fun _ _ _ z => absurd e119 z)
        · rintro _ _ _ _ r m1 ⟨er, -⟩ _
          rw [er]; split <;> simp
        · rintro _ _ _ _ r m1 ⟨er, c1, c2, c4⟩ _
          unfold o_ok o_dA o_dP
          rw [if_neg h98, if_neg h98, if_neg h98, if_neg h112, if_neg h112, if_neg h112, if_pos h119, if_pos h119, if_pos h119]
          exact ⟨er, c1, c2, c4.mono (by intro c i; unfold x_wC x_oC x_St; omega)⟩
      · have e115 : m 155 k = 115 := by omega
        have post : ∀ r m1, ((a_sprok n (G 1 k) 6 (G 3 k) → r = a_sprc T A (G 1 k) (G 3 k) ∧ c_W m1 5 n (a_spr A (G 1 k) 6 (a_sprc T A (G 1 k) (G 3 k))) ∧ c_P m1 n (a_rem A P)) ∧ (¬ a_sprok n (G 1 k) 6 (G 3 k) → r = -1 ∧ c_W m1 5 n A ∧ c_P m1 n P) ∧ q_fx x_pC m m1) → ∀ q : Int, (0 ≤ r → q = 1) → (r < 0 → q = 0) → q = o_ok n T C G k A ∧ c_W m1 5 n (o_dA n T C G k A) ∧ c_P m1 n (o_dP n T C G k A P) ∧ q_fx x_oC m m1 := by
          rintro r m1 ⟨h1, h2, c4⟩ q q1 q0
          unfold o_ok o_dA o_dP
          rw [if_neg h98, if_neg h98, if_neg h98, if_neg h112, if_neg h112, if_neg h112, if_neg h119, if_neg h119, if_neg h119]
          have F := c4.mono (Y := x_oC) (by intro c i; unfold x_pC x_oC x_St; omega)
          by_cases z : a_sprok n (G 1 k) 6 (G 3 k)
          · obtain ⟨er, c1, c2⟩ := h1 z
            have vj := v.1 _ z.1.1 z.1.2
            rw [if_pos z, if_pos z, if_pos z]
            refine ⟨q1 ?_, c1, c2, F⟩
            rw [er]; unfold a_sprc; omega
          · obtain ⟨er, c1, c2⟩ := h2 z
            rw [if_neg z, if_neg z, if_neg z]
            exact ⟨q0 (by omega), c1, c2, F⟩
        refine bkX11_doStep_0 (P2 := fun _ _ => True) (P5 := fun _ _ => True) (P11 := fun _ _ => True) (by omega) (fun z => absurd z n98) (fun z => absurd z n98) (fun z => absurd z n98) (fun _ z => absurd z n112) (fun _ z => absurd z n112) (fun _ z => absurd z n112) (fun _ _ _ => by rw [e6, e8]; exact cl_spring cT cW cP t v pv _ _ _) (fun _ _ _ r m1 h _ z => post r m1 h 0 (by omega) (by omega)) (fun _ _ _ r m1 h _ z => post r m1 h 1 (by omega) (by omega)) (fun _ _ z => absurd e115 z) (fun _ _ z => absurd e115 z) (fun _ _ z => absurd e115 z) (fun _ _ z => absurd e115 z)
/-- the reference's steps -/
def r_O (m G : qm) : Prop := ∀ k, 0 ≤ k → k < G 7 0 → m 206 (4 * k) = G 0 k ∧ (G 0 k = 98 → m 206 (4 * k + 1) = G 3 k) ∧ (G 0 k ≠ 98 → m 206 (4 * k + 1) = G 1 k ∧ m 206 (4 * k + 3) = G 3 k) ∧ (G 0 k = 112 → m 206 (4 * k + 2) = G 2 k)
theorem rf_goStep (cT : r_T m n T) (cW : r_W m n A) (cP : r_P m n P) (t : a_TV n T) (v : a_V B n T.1 A) (pv : a_PV B n T.1 P) (hB : B ≤ 1000000) (hC : l_cR m C) (co : r_O m G) (hk0 : 0 ≤ k ∧ k < G 7 0 ∧ k < 60) (hk : o_kv G k) :
    q_Ev yX12_goStep cX12_goStep 4 (some .boolean) 73 0 0 [(2, 188), (0, 4 * k)] (q_sh0, q_rb b, m) (qE (fun r m1 => r = o_ok n T C G k A ∧ r_W m1 n (o_dA n T C G k A) ∧ r_P m1 n (o_dP n T C G k A P) ∧ q_fx x_oM m m1)) := by
  obtain ⟨e0, e1, e2, e3⟩ := co k hk0.1 hk0.2.1
  obtain ⟨hk1, hk2, hk3, hk4⟩ := hk
  have ob : q_in32 (4 * k + 1) ∧ (0 ≤ (4 * k + 1) ∧ (4 * k + 1) < 320) ∧ q_in32 (4 * k + 3) ∧ (0 ≤ (4 * k + 3) ∧ (4 * k + 3) < 320) ∧ (0 ≤ 4 * k ∧ 4 * k < 320) := ⟨q_in_of (by omega) (by omega), by omega, q_in_of (by omega) (by omega), by omega, by omega⟩
  refine q_enter (by decide +kernel) (by simp) (Nat.le_of_ble_eq_true rfl) ?_
  by_cases h98 : G 0 k = 98
  · obtain ⟨w, hw⟩ : ∃ w : Nat, G 3 k = w := ⟨(G 3 k).toNat, by omega⟩
    have ew : (G 3 k).toNat = w := by omega
    have mono : A.1.2.2 ≤ (a_bells n T A w).1.2.2 := by
      rw [a_bells_1 w]
      exact (f_it_lost (a_OK t v) w).1
    have post : ∀ r m1, (r = (a_bells n T A w).1.2.2 - A.1.2.2 ∧ r_W m1 n (a_bells n T A w) ∧ r_P m1 n (if 0 < w then a_rem A P else P) ∧ i_rr m m1 (some (a_brow n (a_bells n T A w))) ∧ q_fx x_bM m m1) → (1 : Int) = o_ok n T C G k A ∧ r_W m1 n (o_dA n T C G k A) ∧ r_P m1 n (o_dP n T C G k A P) ∧ q_fx x_oM m m1 := by
      rintro r m1 ⟨-, c1, c2, -, c4⟩
      unfold o_ok o_dA o_dP
      rw [if_pos h98, if_pos h98, if_pos h98, ew]
      exact ⟨rfl, c1, c2, c4.mono (by intro c i; unfold x_bM x_oM; omega)⟩
    refine bkX12_goStep_0 (P5 := fun _ _ => True) (P8 := fun _ _ => True) (P9 := fun _ _ => True) ob (fun _ => by rw [e1 h98, hw]; exact rf_bells cT cW cP t v pv hB w (by omega)) ?_ (fun _ r2 m2 h2 _ _ => post r2 m2 h2) (fun z => absurd (e0.trans h98) z) (fun z => absurd (e0.trans h98) z) (fun z => absurd (e0.trans h98) z) (fun z => absurd (e0.trans h98) z) (fun z => absurd (e0.trans h98) z) (fun z => absurd (e0.trans h98) z) (fun z => absurd (e0.trans h98) z) (fun z => absurd (e0.trans h98) z) (fun z => absurd (e0.trans h98) z) (fun z => absurd (e0.trans h98) z)
    rintro _ r2 m2 h2 _ z
    exfalso; have := h2.1; omega
  · have n98 : ¬ m 206 (4 * k) = 98 := by rw [e0]; exact h98
    obtain ⟨e21, e23⟩ := e2 h98
    by_cases h112 : G 0 k = 112
    · have e112 : m 206 (4 * k) = 112 := by rw [e0]; exact h112
      have post : ∀ r m1, (r = a_can n T A (G 1 k) (G 2 k) (G 3 k) ∧ r_W m1 n (a_pourA n T A (G 1 k) (G 2 k) (G 3 k)) ∧ r_P m1 n (a_pourP n T A P (G 1 k) (G 2 k) (G 3 k)) ∧ q_fx x_pM m m1) → ∀ q : Int, (0 < r → q = 1) → (r ≤ 0 → q = 0) → q = o_ok n T C G k A ∧ r_W m1 n (o_dA n T C G k A) ∧ r_P m1 n (o_dP n T C G k A P) ∧ q_fx x_oM m m1 := by
        rintro r m1 ⟨er, c1, c2, c4⟩ q q1 q0
        unfold o_ok o_dA o_dP
        rw [if_neg h98, if_neg h98, if_neg h98, if_pos h112, if_pos h112, if_pos h112]
        refine ⟨?_, c1, c2, c4.mono (by intro c i; unfold x_pM x_oM x_Go; omega)⟩
        split <;> omega
      refine bkX12_goStep_0 (P2 := fun _ _ => True) (P8 := fun _ _ => True) (P9 := fun _ _ => True) ob (fun z => absurd z n98) (fun z => absurd z n98) (fun z => absurd z n98) (fun _ _ => ⟨q_in_of (by omega) (by omega), by omega⟩) (fun _ _ => by rw [e21, e3 h112, e23]; exact rf_pour cT cW cP t v pv _ _ _) (fun _ _ r m1 h _ z => post r m1 h 0 (by omega) (by omega)) (fun _ _ r m1 h _ z => post r m1 h 1 (by omega) (by omega)) (fun _ z => absurd e112 z) (fun _ z => absurd e112 z) (fun _ z => absurd e112 z) (fun _ z => absurd e112 z) (fun _ z => absurd e112 z) (fun _ z => absurd e112 z)
    · have n112 : ¬ m 206 (4 * k) = 112 := by rw [e0]; exact h112
      by_cases h119 : G 0 k = 119
      · have e119 : m 206 (4 * k) = 119 := by rw [e0]; exact h119
        refine bkX12_goStep_0 (P2 := fun _ _ => True) (P5 := fun _ _ => True) (P9 := fun _ _ => True) ob (fun z => absurd z n98) (fun z => absurd z n98) (fun z => absurd z n98) (fun _ z => absurd z n112) (fun _ z => absurd z n112) (fun _ z => absurd z n112) (fun _ z => absurd z n112) (fun _ _ _ => by rw [e21, e23]; exact rf_wax cT cW cP t v pv hB hC _ _) ?_ ?_ (fun _ _ z => absurd e119 z) (fun _ _ z => absurd e119 z) (fun _ _ z => absurd e119 z)
        · rintro _ _ _ r b8 m1 ⟨er, -⟩ _
          rw [er]; split <;> simp
        · rintro _ _ _ r b8 m1 ⟨er, c1, c2, c4⟩ _
          unfold o_ok o_dA o_dP
          rw [if_neg h98, if_neg h98, if_neg h98, if_neg h112, if_neg h112, if_neg h112, if_pos h119, if_pos h119, if_pos h119]
          exact ⟨er, c1, c2, c4.mono (by intro c i; unfold x_wM x_oM x_Go; omega)⟩
      · have n119 : ¬ m 206 (4 * k) = 119 := by rw [e0]; exact h119
        have post : ∀ r m1, ((a_sprok n (G 1 k) 6 (G 3 k) → r = a_sprc T A (G 1 k) (G 3 k) ∧ r_W m1 n (a_spr A (G 1 k) 6 (a_sprc T A (G 1 k) (G 3 k))) ∧ r_P m1 n (a_rem A P)) ∧ (¬ a_sprok n (G 1 k) 6 (G 3 k) → r = -1 ∧ r_W m1 n A ∧ r_P m1 n P) ∧ q_fx x_pM2 m m1) → ∀ q : Int, (0 ≤ r → q = 1) → (r < 0 → q = 0) → q = o_ok n T C G k A ∧ r_W m1 n (o_dA n T C G k A) ∧ r_P m1 n (o_dP n T C G k A P) ∧ q_fx x_oM m m1 := by
          rintro r m1 ⟨h1, h2, c4⟩ q q1 q0
          unfold o_ok o_dA o_dP
          rw [if_neg h98, if_neg h98, if_neg h98, if_neg h112, if_neg h112, if_neg h112, if_neg h119, if_neg h119, if_neg h119]
          have F := c4.mono (Y := x_oM) (by intro c i; unfold x_pM2 x_oM x_Go; omega)
          by_cases z : a_sprok n (G 1 k) 6 (G 3 k)
          · obtain ⟨er, c1, c2⟩ := h1 z
            have vj := v.1 _ z.1.1 z.1.2
            rw [if_pos z, if_pos z, if_pos z]
            refine ⟨q1 ?_, c1, c2, F⟩
            rw [er]; unfold a_sprc; omega
          · obtain ⟨er, c1, c2⟩ := h2 z
            rw [if_neg z, if_neg z, if_neg z]
            exact ⟨q0 (by omega), c1, c2, F⟩
        exact bkX12_goStep_0 (P2 := fun _ _ => True) (P5 := fun _ _ => True) (P8 := fun _ _ => True) ob (fun z => absurd z n98) (fun z => absurd z n98) (fun z => absurd z n98) (fun _ z => absurd z n112) (fun _ z => absurd z n112) (fun _ z => absurd z n112) (fun _ z => absurd z n112) (fun _ _ z => absurd z n119) (fun _ _ z => absurd z n119) (fun _ _ z => absurd z n119) (fun _ _ _ => by rw [e21, e23]; exact rf_spring cT cW cP t v pv _ _ _) (fun _ _ _ r m1 h _ z => post r m1 h 0 (by omega) (by omega)) (fun _ _ _ r m1 h _ z => post r m1 h 1 (by omega) (by omega))
end ORDX
