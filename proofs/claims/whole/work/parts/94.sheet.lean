/-! ===== sheet ===== -/
def a_sv (f st : Int) (j : Int) : Int := q_w32 (f + q_w32 (j * st))
theorem a_sv_s {f st : Int} (y : Nat) : a_sv f st ((y + 1 : Nat) : Int) = q_w32 (a_sv f st y + st) := by
  unfold a_sv
  rw [show ((y + 1 : Nat) : Int) * st = (y : Int) * st + st by rw [show ((y + 1 : Nat) : Int) = (y : Int) + 1 by omega, Int.add_mul, Int.one_mul]]
  generalize (y : Int) * st = t
  unfold q_w32
  omega
def a_sh (kd v f st : Int) : Int → Int := fun j => if kd = 3 ∨ v ≤ j then 0 else max 0 (min 9 (if kd = 0 then q_oi2b (a_sv f st j) else if kd = 1 then q_oi2s (a_sv f st j) else a_sv f st j))
theorem a_sh_in {kd v f st : Int} (j : Int) : 0 ≤ a_sh kd v f st j ∧ a_sh kd v f st j ≤ 9 := by unfold a_sh; split <;> omega
theorem op_sheet {LW : qm → Prop} (hL : i_Lf LW) {k : Nat} {b : Int} {m : qm} (I : i_I LW k m) (kd v f st : Int) (hf32 : q_in32 f) :
    q_Ev yX11_sheet cX11_sheet 9 (some .int) 2 0 0 [(2, 0), (0, kd), (0, v), (0, f), (0, st)] (q_sh0, q_rb b, m) (qK (q_rb b) (fun r m1 => q_Ev yX12_sheet cX12_sheet 9 (some .int) 2 0 0 [(2, 188), (0, kd), (0, v), (0, f), (0, st)] (q_sh0, q_rb b, m1) (i_O LW (k + 1) r))) := by
  have I2 := I
  obtain ⟨n, t, p, a, x, r, s, u, kk, l⟩ := I2
  have t1 := t.1
  have t2 := t.2.1
  have t3 := t.2.2.1
  have hb : (1500 * (k : Int)) ≤ 1500 * ((k + 1 : Nat) : Int) := by omega
  have no : ∀ q : Int, ((¬ (0 ≤ kd ∧ kd ≤ 3) ∨ 9 < v) ∧ q = -1) ∨ ((0 ≤ kd ∧ kd < 3) ∧ v < 0 ∧ q = -2) → q_Ev yX12_sheet cX12_sheet 9 (some .int) 2 0 0 [(2, 188), (0, kd), (0, v), (0, f), (0, st)] (q_sh0, q_rb b, m) (i_O LW (k + 1) q) := by
    intro q hq
    refine i_O_of (b := b) (q_enter (by decide +kernel) (by simp) (Nat.le_of_ble_eq_true rfl) ?_)
    exact bkX12_sheet_0 (fun z1 z2 z3 => absurd hq (by omega)) (fun z1 z2 z3 z4 => absurd hq (by omega)) (fun _ _ _ _ => ⟨by omega, I.no hL⟩) (fun _ _ => ⟨by omega, I.no hL⟩) (fun _ => ⟨by omega, I.no hL⟩)
  by_cases ok : (0 ≤ kd ∧ kd ≤ 3) ∧ v ≤ 9 ∧ (kd = 3 ∨ 0 ≤ v)
  · generalize hH : a_sh kd v f st = H
    have hin : ∀ j, 0 ≤ H j ∧ H j ≤ 9 := fun j => by rw [← hH]; exact a_sh_in j
    have sin : ∀ y : Nat, y ≤ n → 0 ≤ g_s H y ∧ g_s H y ≤ 9 * y := fun y _ => g_s_in (by decide) (fun j _ _ => hin j)
    generalize hR : (if kd = 3 then -3 else g_s H n) = R
    refine q_Ev.post (P := fun r m1 => r = R ∧ (∀ j : Int, 0 ≤ j → j < n → m1 10 j = H j) ∧ q_fx (fun c i => c = 10) m m1) ?_ ?_
    · refine q_enter (by decide +kernel) (by simp) (Nat.le_of_ble_eq_true rfl) ?_
      have go : ∀ mi : Int, ((mi = 0 ∧ kd ≠ 3) ∨ (mi = 1 ∧ kd = 3)) → q_At yX11_sheet cX11_sheet 9 (some .int) 2 0 0 (qK (q_rb b) (fun r m1 => r = R ∧ (∀ j : Int, 0 ≤ j → j < n → m1 10 j = H j) ∧ q_fx (fun c i => c = 10) m m1)) 47 [(2, 0), (0, kd), (0, v), (0, f), (0, st), (0, mi), (0, 0), (0, 0), (4, 0)] [] (q_sh0, q_rb b, m) := by
        intro mi hmi
        refine q_for1 (A := fun i (x : Int) m' => q_At yX11_sheet cX11_sheet 9 (some .int) 2 0 0 _ 47 [(2, 0), (0, kd), (0, v), (0, f), (0, st), (0, mi), (0, x), (0, i), (4, 0)] [] (q_sh0, q_rb b, m')) (fun i x m' => ∃ y : Nat, i = y ∧ y ≤ n ∧ x = g_s H y ∧ (∀ j : Int, 0 ≤ j → j < y → m' 10 j = H j) ∧ q_fx (fun c i => c = 10) m m') n ?_ ?_ 0 0 m ⟨0, rfl, by omega, rfl, fun j a b => absurd a (by omega), q_fx.rf⟩
        · rintro i x m' hi ⟨y, rfl, hy, rfl, h, fx⟩
          have : y = n := by omega
          subst this
          have e : m' 1 3 = y := (fx _ _ (by omega)).trans t2
          exact bkX11_sheet_47 (P5 := fun _ _ => True) (fun _ z => ⟨by rw [← hR, if_neg (by omega)], h, fx⟩) (fun _ z => ⟨by rw [← hR, if_pos (by omega)], h, fx⟩) (fun z => absurd z (by omega)) (fun z => absurd z (by omega)) (fun z => absurd z (by omega)) (fun z => absurd z (by omega)) (fun z => absurd z (by omega)) (fun z => absurd z (by omega)) (fun z => absurd z (by omega))
        · rintro i x m' hi ⟨y, rfl, hy, rfl, h, fx⟩ ih
          have e : m' 1 3 = n := (fx _ _ (by omega)).trans t2
          have b1 := sin y hy
          have b2 := hin y
          have ad : ∀ w : Int, w = H y → q_w32 (g_s H y + w) = g_s H (y + 1) := fun w hw => by rw [hw, q_w32_id (q_in_of (by omega) (by omega))]; rfl
          have st' : ∀ (w : Int) (m2 : qm), w = H y → m2 = m' → q_At yX11_sheet cX11_sheet 9 (some .int) 2 0 0 (qK (q_rb b) (fun r m1 => r = R ∧ (∀ j : Int, 0 ≤ j → j < n → m1 10 j = H j) ∧ q_fx (fun c i => c = 10) m m1)) 47 [(2, 0), (0, kd), (0, v), (0, f), (0, st), (0, mi), (0, q_w32 (g_s H y + w)), (0, (y : Int) + 1), (4, 0)] [] (q_sh0, q_rb b, q_up m2 10 y w) := by
            rintro w m2 hw rfl
            rw [ad w hw]
            refine ih _ _ ⟨y + 1, by omega, by omega, rfl, fun j a b => ?_, fx.up rfl⟩
            by_cases hj : j = y
            · subst hj; rw [q_up_s]; exact hw
            · rw [q_up_i hj]; exact h j a (by omega)
          refine bkX11_sheet_47 (P5 := fun r5 m5 => m5 = m' ∧ (kd ≠ 3 → (y : Int) < v → r5 = H y)) (fun z => absurd z (by omega)) (fun z => absurd z (by omega)) (fun _ _ => ⟨by omega, q_in_of (by omega) (by omega)⟩) (fun _ z => st' 0 m' (by rw [← hH]; unfold a_sh; rw [if_pos (Or.inl (by omega))]) rfl) (fun _ _ _ => ?_) (fun _ _ _ _ _ _ _ => ⟨by omega, q_in_of (by omega) (by omega)⟩) (fun _ z1 z2 r5 m5 h5 _ => st' r5 m5 (h5.2 (by omega) z2) h5.1) (fun _ _ _ => ⟨by omega, q_in_of (by omega) (by omega)⟩) (fun _ z1 z2 => st' 0 m' (by rw [← hH]; unfold a_sh; rw [if_pos (Or.inr z2)]) rfl)
          refine q_enter (by decide +kernel) (by simp) (Nat.le_of_ble_eq_true rfl) ?_
          refine bkX11_sheetEntry_0 (fun z1 z2 => ⟨rfl, fun n3 hv => ?_⟩) (fun z1 z2 => ⟨rfl, fun n3 hv => ?_⟩) (fun z1 => ⟨rfl, fun n3 hv => ?_⟩)
          · rw [← hH]; unfold a_sh; rw [if_neg (by omega), if_neg z1, if_neg z2]; rfl
          · rw [← hH]; unfold a_sh; rw [if_neg (by omega), if_neg z1, if_pos z2]; rfl
          · rw [← hH]; unfold a_sh; rw [if_neg (by omega), if_pos z1]; rfl
      exact bkX11_sheet_0 (fun z => absurd ok (by omega)) (fun z1 z2 => absurd ok (by omega)) (fun _ _ _ z _ => go 0 (Or.inl ⟨rfl, z⟩)) (fun z1 z2 z3 z4 z5 => absurd ok (by omega)) (fun _ _ _ z => go 1 (Or.inr ⟨rfl, z⟩)) (fun z1 z2 z3 => absurd ok (by omega))
    · rintro r1 m1 ⟨er, h1, f1⟩
      rw [er]
      have e1 : m1 188 0 = n := (f1 _ _ (by omega)).trans t3
      refine i_O_of (b := b) (q_Ev.post (P := fun r m2 => r = R ∧ (∀ j : Int, 0 ≤ j → j < n → m2 191 j = H j) ∧ q_fx (fun c i => c = 191 ∨ (c = 188 ∧ i = 17)) m1 m2) ?_ ?_)
      · refine q_enter (by decide +kernel) (by simp) (Nat.le_of_ble_eq_true rfl) ?_
        have go : q_At yX12_sheet cX12_sheet 9 (some .int) 2 0 0 (qK (q_rb b) (fun r m2 => r = R ∧ (∀ j : Int, 0 ≤ j → j < n → m2 191 j = H j) ∧ q_fx (fun c i => c = 191 ∨ (c = 188 ∧ i = 17)) m1 m2)) 43 [(2, 188), (0, kd), (0, v), (0, f), (0, st), (0, 0), (0, f), (0, 0), (4, 0)] [] (q_sh0, q_rb b, q_up m1 188 17 0) := by
          refine q_for1 (A := fun i (x : Int × Int) m' => q_At yX12_sheet cX12_sheet 9 (some .int) 2 0 0 _ 43 [(2, 188), (0, kd), (0, v), (0, f), (0, st), (0, x.1), (0, x.2), (0, i), (4, 0)] [] (q_sh0, q_rb b, m')) (fun i x m' => ∃ y : Nat, i = y ∧ y ≤ n ∧ x = (g_s H y, a_sv f st y) ∧ (∀ j : Int, 0 ≤ j → j < y → m' 191 j = H j) ∧ q_fx (fun c i => c = 191 ∨ (c = 188 ∧ i = 17)) m1 m') n ?_ ?_ 0 (0, f) _ ⟨0, rfl, by omega, by show (0, f) = (0, a_sv f st 0); unfold a_sv; rw [Int.zero_mul, show q_w32 0 = 0 from by decide, Int.add_zero, q_w32_id hf32], fun j a b => absurd a (by omega), q_fx.rf.up (Or.inr ⟨rfl, rfl⟩)⟩
          · rintro i x m' hi ⟨y, rfl, hy, rfl, h, fx⟩
            have : y = n := by omega
            subst this
            have e : m' 188 0 = y := (fx _ _ (by omega)).trans e1
            exact bkX12_sheet_43 (fun _ z => ⟨by rw [← hR, if_neg z], h, fx⟩) (fun _ z => ⟨by rw [← hR, if_pos z], h, fx⟩) (fun z => absurd z (by omega)) (fun z => absurd z (by omega)) (fun z => absurd z (by omega)) (fun z => absurd z (by omega)) (fun z => absurd z (by omega)) (fun z => absurd z (by omega)) (fun z => absurd z (by omega)) (fun z => absurd z (by omega)) (fun z => absurd z (by omega)) (fun z => absurd z (by omega)) (fun z => absurd z (by omega)) (fun z => absurd z (by omega)) (fun z => absurd z (by omega)) (fun z => absurd z (by omega)) (fun z => absurd z (by omega)) (fun z => absurd z (by omega)) (fun z => absurd z (by omega)) (fun z => absurd z (by omega))
          · rintro i x m' hi ⟨y, rfl, hy, rfl, h, fx⟩ ih
            have e : m' 188 0 = n := (fx _ _ (by omega)).trans e1
            have b1 := sin y hy
            have b2 := hin y
            have oo : (0 ≤ (y : Int) ∧ (y : Int) < 9) ∧ q_in32 ((y : Int) + 1) := ⟨by omega, q_in_of (by omega) (by omega)⟩
            have ad : ∀ w : Int, w = H y → q_w32 (g_s H y + w) = g_s H (y + 1) := fun w hw => by rw [hw, q_w32_id (q_in_of (by omega) (by omega))]; rfl
            have st' : ∀ (w : Int), w = H y → q_At yX12_sheet cX12_sheet 9 (some .int) 2 0 0 (qK (q_rb b) (fun r m2 => r = R ∧ (∀ j : Int, 0 ≤ j → j < n → m2 191 j = H j) ∧ q_fx (fun c i => c = 191 ∨ (c = 188 ∧ i = 17)) m1 m2)) 43 [(2, 188), (0, kd), (0, v), (0, f), (0, st), (0, q_w32 (g_s H y + w)), (0, q_w32 (a_sv f st y + st)), (0, (y : Int) + 1), (4, 0)] [] (q_sh0, q_rb b, q_up m' 191 y w) := by
              intro w hw
              rw [ad w hw, ← a_sv_s]
              refine ih (g_s H (y + 1), a_sv f st ((y + 1 : Nat) : Int)) _ ⟨y + 1, by omega, by omega, rfl, fun j a b => ?_, fx.up (Or.inl rfl)⟩
              by_cases hj : j = y
              · subst hj; rw [q_up_s]; exact hw
              · rw [q_up_i hj]; exact h j a (by omega)
            have z3 : kd = 3 → (0 : Int) = H y := fun h3 => by rw [← hH]; unfold a_sh; rw [if_pos (Or.inl h3)]
            have zv : v ≤ (y : Int) → (0 : Int) = H y := fun h3 => by rw [← hH]; unfold a_sh; rw [if_pos (Or.inr h3)]
            exact bkX12_sheet_43 (fun z => absurd z (by omega)) (fun z => absurd z (by omega)) (fun _ _ _ _ => oo) (fun _ _ _ z => st' 0 (z3 z)) (fun _ _ _ _ _ => oo) (fun _ z0 z1 z2 z4 => st' _ (by rw [← hH]; unfold a_sh; rw [if_neg (by omega), if_neg z0, if_neg z1])) (fun _ _ _ _ _ => oo) (fun _ _ _ _ z => st' 0 (zv z)) (fun _ _ _ _ => oo) (fun _ _ _ z => st' 0 (z3 z)) (fun _ _ _ _ _ => oo) (fun _ z0 z1 z2 z4 => st' _ (by rw [← hH]; unfold a_sh; rw [if_neg (by omega), if_neg z0, if_pos z1])) (fun _ _ _ _ _ => oo) (fun _ _ _ _ z => st' 0 (zv z)) (fun _ _ _ => oo) (fun _ _ z => st' 0 (z3 z)) (fun _ _ _ _ => oo) (fun _ z0 z2 z4 => st' _ (by rw [← hH]; unfold a_sh; rw [if_neg (by omega), if_pos z0])) (fun _ _ _ _ => oo) (fun _ _ _ z => st' 0 (zv z))
        exact bkX12_sheet_0 (fun _ _ _ => go) (fun _ _ _ _ => go) (fun z1 z2 z3 z4 => absurd ok (by omega)) (fun z1 z2 => absurd ok (by omega)) (fun z => absurd ok.1 z)
      · rintro r2 m2 ⟨rfl, h2, f2⟩
        refine ⟨rfl, ?_⟩
        have hf : q_fx (fun c i => c = 10 ∨ c = 191 ∨ (c = 188 ∧ i = 17)) m m2 := (f1.mono (fun c i z => Or.inl z)).tr (f2.mono (fun c i z => Or.inr z))
        refine ⟨n, t.fr hf (by intro c i; unfold x_T; omega), fun i i0 i1 => ?_, (a.fr hf (by intro c i; unfold x_N; omega)).mo hb, x.fr hf (by intro c i; unfold x_X; omega), r.fr hf (by intro c i; unfold x_R; omega), s.fr hf (by intro c i; unfold x_S; omega), (u.fr hf (by intro c i; unfold x_U; omega)).mo hb, (kk.fr hf (by intro c i; unfold x_K; omega)).mo hb, hL _ _ _ l hf (by intro c i; unfold x_L; omega)⟩
        have pi := p i i0 i1
        have hi := hin i
        rw [f2 10 i (by omega), h1 i i0 i1, h2 i i0 i1, hf 11 i (by omega), hf 194 i (by omega), hf 193 _ (by omega), hf 193 i (by omega)]
        exact ⟨rfl, hi.1, hi.2, pi.2.2.2⟩
  · refine q_enter (by decide +kernel) (by simp) (Nat.le_of_ble_eq_true rfl) ?_
    exact bkX11_sheet_0 (fun _ => no _ (by omega)) (fun _ _ => no _ (by omega)) (fun z1 z2 z3 z4 z5 => absurd (by omega) ok) (fun _ _ _ _ _ => no _ (by omega)) (fun z1 z2 z3 z4 => absurd (by omega) ok) (fun _ _ _ => no _ (by omega))
