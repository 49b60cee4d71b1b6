/-! ===== sums over jars ===== -/
def g_s (f : Int → Int) : Nat → Int
  | 0 => 0
  | k + 1 => g_s f k + f k
theorem g_s_en {f g : Int → Int} : ∀ {n : Nat}, f_en n f g → g_s f n = g_s g n
  | 0, _ => rfl
  | n + 1, h => by
    simp only [g_s]
    rw [h n (by omega) (by omega), g_s_en (fun j a b => h j a (by omega))]
theorem g_s_in {f : Int → Int} {A : Int} (hA : 0 ≤ A) : ∀ {n : Nat}, (∀ j : Int, 0 ≤ j → j < n → 0 ≤ f j ∧ f j ≤ A) → 0 ≤ g_s f n ∧ g_s f n ≤ A * n
  | 0, _ => by simp [g_s]
  | n + 1, h => by
    have a := g_s_in hA (n := n) (fun j a b => h j a (by omega))
    have b := h n (by omega) (by omega)
    simp only [g_s]
    have e : A * ((n + 1 : Nat) : Int) = A * n + A := by rw [Int.natCast_add, Int.mul_add]; simp
    omega
abbrev g_dr (ow lv : Int → Int) (w : Int) : Int → Int := fun j => if ow j = w then lv j else 0
abbrev g_rm (ow hd lv : Int → Int) (w : Int) : Int → Int := fun j => if ow j = w then hd j - lv j else 0
theorem sp_dropsC {b w c : Int} {mem : qm} (hc : q_sh0[c.toNat]? = some (0, 9)) (n : Nat) (hn : mem 1 3 = n) (h9 : n ≤ 9) (hl : ∀ j : Int, 0 ≤ j → j < n → 0 ≤ mem c j ∧ mem c j ≤ 60) : q_Ev yX11_dropsOf cX11_dropsOf 5 (some .int) 1 0 0 [(2, 0), (0, w), (2, c)] (q_sh0, q_rb b, mem) (qK (q_rb b) (fun r m => m = mem ∧ r = g_s (g_dr (mem 3) (mem c) w) n)) := by
  refine q_enter (by decide +kernel) (by simp) (Nat.le_of_ble_eq_true rfl) ?_
  refine bkX11_dropsOf_0 hc ?_
  have hb : ∀ v : Nat, v ≤ n → 0 ≤ g_s (g_dr (mem 3) (mem c) w) v ∧ g_s (g_dr (mem 3) (mem c) w) v ≤ 60 * v := fun v hv => g_s_in (by decide) (fun j a b => by have := hl j a (by omega); simp only [g_dr]; split <;> omega)
  refine q_for1 (A := fun i (x : Int) m => q_At yX11_dropsOf cX11_dropsOf 5 (some .int) 1 0 0 _ 5 [(2, 0), (0, w), (2, c), (0, x), (0, i)] [] (q_sh0, q_rb b, m)) (fun i x m => ∃ v : Nat, i = v ∧ v ≤ n ∧ m = mem ∧ x = g_s (g_dr (mem 3) (mem c) w) v) n ?_ ?_ 0 0 mem ⟨0, rfl, by omega, rfl, rfl⟩
  · rintro i x m hi ⟨v, rfl, hv, rfl, rfl⟩
    have : v = n := by omega
    subst this
    exact bkX11_dropsOf_5 hc (fun _ => ⟨rfl, rfl⟩) (fun z => absurd z (by omega)) (fun z => absurd z (by omega)) (fun z => absurd z (by omega)) (fun z => absurd z (by omega)) (fun z => absurd z (by omega))
  · rintro i x m hi ⟨v, rfl, hv, rfl, rfl⟩ ih
    have b1 := hb v hv
    have b2 := hl v (by omega) (by omega)
    refine bkX11_dropsOf_5 hc (fun z => absurd z (by omega)) (fun _ => by omega) (fun _ _ => ⟨q_in_of (by omega) (by omega), q_in_of (by omega) (by omega)⟩) (fun _ z => ?_) (fun _ _ => ⟨q_in_of (by omega) (by omega), q_in_of (by omega) (by omega)⟩) (fun _ z => ?_)
    · exact ih _ _ ⟨v + 1, by omega, by omega, rfl, by simp only [g_s, g_dr]; rw [if_neg z]⟩
    · exact ih _ _ ⟨v + 1, by omega, by omega, rfl, by simp only [g_s, g_dr]; rw [if_pos z]⟩
theorem sp_roomC {b w c : Int} {mem : qm} (hc : q_sh0[c.toNat]? = some (0, 9)) (n : Nat) (hn : mem 1 3 = n) (h9 : n ≤ 9) (hl : ∀ j : Int, 0 ≤ j → j < n → 0 ≤ mem c j ∧ mem c j ≤ mem 2 j ∧ mem 2 j ≤ 60) : q_Ev yX11_roomOf cX11_roomOf 5 (some .int) 1 0 0 [(2, 0), (0, w), (2, c)] (q_sh0, q_rb b, mem) (qK (q_rb b) (fun r m => m = mem ∧ r = g_s (g_rm (mem 3) (mem 2) (mem c) w) n)) := by
  refine q_enter (by decide +kernel) (by simp) (Nat.le_of_ble_eq_true rfl) ?_
  refine bkX11_roomOf_0 hc ?_
  have hb : ∀ v : Nat, v ≤ n → 0 ≤ g_s (g_rm (mem 3) (mem 2) (mem c) w) v ∧ g_s (g_rm (mem 3) (mem 2) (mem c) w) v ≤ 60 * v := fun v hv => g_s_in (by decide) (fun j a b => by have := hl j a (by omega); simp only [g_rm]; split <;> omega)
  refine q_for1 (A := fun i (x : Int) m => q_At yX11_roomOf cX11_roomOf 5 (some .int) 1 0 0 _ 5 [(2, 0), (0, w), (2, c), (0, x), (0, i)] [] (q_sh0, q_rb b, m)) (fun i x m => ∃ v : Nat, i = v ∧ v ≤ n ∧ m = mem ∧ x = g_s (g_rm (mem 3) (mem 2) (mem c) w) v) n ?_ ?_ 0 0 mem ⟨0, rfl, by omega, rfl, rfl⟩
  · rintro i x m hi ⟨v, rfl, hv, rfl, rfl⟩
    have : v = n := by omega
    subst this
    exact bkX11_roomOf_5 hc (fun _ => ⟨rfl, rfl⟩) (fun z => absurd z (by omega)) (fun z => absurd z (by omega)) (fun z => absurd z (by omega)) (fun z => absurd z (by omega)) (fun z => absurd z (by omega))
  · rintro i x m hi ⟨v, rfl, hv, rfl, rfl⟩ ih
    have b1 := hb v hv
    have b2 := hl v (by omega) (by omega)
    refine bkX11_roomOf_5 hc (fun z => absurd z (by omega)) (fun _ => by omega) (fun _ _ => ⟨q_in_of (by omega) (by omega), q_in_of (by omega) (by omega)⟩) (fun _ z => ?_) (fun _ _ => ⟨q_in_of (by omega) (by omega), q_in_of (by omega) (by omega), q_in_of (by omega) (by omega)⟩) (fun _ z => ?_)
    · exact ih _ _ ⟨v + 1, by omega, by omega, rfl, by simp only [g_s, g_rm]; rw [if_neg z]⟩
    · exact ih _ _ ⟨v + 1, by omega, by omega, rfl, by simp only [g_s, g_rm]; rw [if_pos z]⟩
theorem sp_dropsM {b w : Int} {mem : qm} (n : Nat) (hn : mem 188 0 = n) (h9 : n ≤ 9) (hl : ∀ j : Int, 0 ≤ j → j < n → 0 ≤ mem 207 j ∧ mem 207 j ≤ 60) : q_Ev yX12_dropsOf cX12_dropsOf 4 (some .int) 1 0 0 [(2, 188), (0, w)] (q_sh0, q_rb b, mem) (qK (q_rb b) (fun r m => m = mem ∧ r = g_s (g_dr (mem 192) (mem 207) w) n)) := by
  refine q_enter (by decide +kernel) (by simp) (Nat.le_of_ble_eq_true rfl) ?_
  refine bkX12_dropsOf_0 ?_
  have hb : ∀ v : Nat, v ≤ n → 0 ≤ g_s (g_dr (mem 192) (mem 207) w) v ∧ g_s (g_dr (mem 192) (mem 207) w) v ≤ 60 * v := fun v hv => g_s_in (by decide) (fun j a b => by have := hl j a (by omega); simp only [g_dr]; split <;> omega)
  refine q_for1 (A := fun i (x : Int) m => q_At yX12_dropsOf cX12_dropsOf 4 (some .int) 1 0 0 _ 4 [(2, 188), (0, w), (0, x), (0, i)] [] (q_sh0, q_rb b, m)) (fun i x m => ∃ v : Nat, i = v ∧ v ≤ n ∧ m = mem ∧ x = g_s (g_dr (mem 192) (mem 207) w) v) n ?_ ?_ 0 0 mem ⟨0, rfl, by omega, rfl, rfl⟩
  · rintro i x m hi ⟨v, rfl, hv, rfl, rfl⟩
    have : v = n := by omega
    subst this
    exact bkX12_dropsOf_4 (fun _ => ⟨rfl, rfl⟩) (fun z => absurd z (by omega)) (fun z => absurd z (by omega)) (fun z => absurd z (by omega)) (fun z => absurd z (by omega)) (fun z => absurd z (by omega))
  · rintro i x m hi ⟨v, rfl, hv, rfl, rfl⟩ ih
    have b1 := hb v hv
    have b2 := hl v (by omega) (by omega)
    refine bkX12_dropsOf_4 (fun z => absurd z (by omega)) (fun _ => by omega) (fun _ _ => ⟨q_in_of (by omega) (by omega), q_in_of (by omega) (by omega)⟩) (fun _ z => ?_) (fun _ _ => ⟨q_in_of (by omega) (by omega), q_in_of (by omega) (by omega)⟩) (fun _ z => ?_)
    · exact ih _ _ ⟨v + 1, by omega, by omega, rfl, by simp only [g_s, g_dr]; rw [if_neg z]⟩
    · exact ih _ _ ⟨v + 1, by omega, by omega, rfl, by simp only [g_s, g_dr]; rw [if_pos z]⟩
theorem sp_roomM {b w : Int} {mem : qm} (n : Nat) (hn : mem 188 0 = n) (h9 : n ≤ 9) (hl : ∀ j : Int, 0 ≤ j → j < n → 0 ≤ mem 207 j ∧ mem 207 j ≤ mem 189 j ∧ mem 189 j ≤ 60) : q_Ev yX12_roomOf cX12_roomOf 4 (some .int) 1 0 0 [(2, 188), (0, w)] (q_sh0, q_rb b, mem) (qK (q_rb b) (fun r m => m = mem ∧ r = g_s (g_rm (mem 192) (mem 189) (mem 207) w) n)) := by
  refine q_enter (by decide +kernel) (by simp) (Nat.le_of_ble_eq_true rfl) ?_
  refine bkX12_roomOf_0 ?_
  have hb : ∀ v : Nat, v ≤ n → 0 ≤ g_s (g_rm (mem 192) (mem 189) (mem 207) w) v ∧ g_s (g_rm (mem 192) (mem 189) (mem 207) w) v ≤ 60 * v := fun v hv => g_s_in (by decide) (fun j a b => by have := hl j a (by omega); simp only [g_rm]; split <;> omega)
  refine q_for1 (A := fun i (x : Int) m => q_At yX12_roomOf cX12_roomOf 4 (some .int) 1 0 0 _ 4 [(2, 188), (0, w), (0, x), (0, i)] [] (q_sh0, q_rb b, m)) (fun i x m => ∃ v : Nat, i = v ∧ v ≤ n ∧ m = mem ∧ x = g_s (g_rm (mem 192) (mem 189) (mem 207) w) v) n ?_ ?_ 0 0 mem ⟨0, rfl, by omega, rfl, rfl⟩
  · rintro i x m hi ⟨v, rfl, hv, rfl, rfl⟩
    have : v = n := by omega
    subst this
    exact bkX12_roomOf_4 (fun _ => ⟨rfl, rfl⟩) (fun z => absurd z (by omega)) (fun z => absurd z (by omega)) (fun z => absurd z (by omega)) (fun z => absurd z (by omega)) (fun z => absurd z (by omega))
  · rintro i x m hi ⟨v, rfl, hv, rfl, rfl⟩ ih
    have b1 := hb v hv
    have b2 := hl v (by omega) (by omega)
    refine bkX12_roomOf_4 (fun z => absurd z (by omega)) (fun _ => by omega) (fun _ _ => ⟨q_in_of (by omega) (by omega), q_in_of (by omega) (by omega)⟩) (fun _ z => ?_) (fun _ _ => ⟨q_in_of (by omega) (by omega), q_in_of (by omega) (by omega), q_in_of (by omega) (by omega)⟩) (fun _ z => ?_)
    · exact ih _ _ ⟨v + 1, by omega, by omega, rfl, by simp only [g_s, g_rm]; rw [if_neg z]⟩
    · exact ih _ _ ⟨v + 1, by omega, by omega, rfl, by simp only [g_s, g_rm]; rw [if_pos z]⟩
/-- a debt can be paid -/
abbrev g_pay (n : Nat) (ow hd lv : Int → Int) (due x y : Int) : Prop := due ≤ g_s (g_dr ow lv x) n ∧ due ≤ g_s (g_rm ow hd lv y) n
theorem g_pay_en {n : Nat} {ow ow' hd hd' lv lv' : Int → Int} {due x y : Int} (h1 : f_en n ow ow') (h2 : f_en n hd hd') (h3 : f_en n lv lv') : g_pay n ow hd lv due x y ↔ g_pay n ow' hd' lv' due x y := by
  unfold g_pay
  rw [g_s_en (f := g_dr ow lv x) (g := g_dr ow' lv' x) (fun j a b => by simp only [g_dr]; rw [h1 j a b, h3 j a b]), g_s_en (f := g_rm ow hd lv y) (g := g_rm ow' hd' lv' y) (fun j a b => by simp only [g_rm]; rw [h1 j a b, h2 j a b, h3 j a b])]
theorem sp_couldPay {b x y c : Int} {mem : qm} (hc : q_sh0[c.toNat]? = some (0, 9)) (n : Nat) (hn : mem 1 3 = n) (h9 : n ≤ 9) (hl : ∀ j : Int, 0 ≤ j → j < n → 0 ≤ mem c j ∧ mem c j ≤ mem 2 j ∧ mem 2 j ≤ 60) (hx : 0 ≤ x ∧ x < 6) (hy : 0 ≤ y ∧ y < 6) : q_Ev yX11_couldPay cX11_couldPay 5 (some .boolean) 2 0 0 [(2, 0), (0, x), (0, y), (2, c)] (q_sh0, q_rb b, mem) (qK (q_rb b) (fun r m => m = mem ∧ ((r = 1 ∧ g_pay n (mem 3) (mem 2) (mem c) (mem 12 (6 * x + y)) x y) ∨ (r = 0 ∧ ¬ g_pay n (mem 3) (mem 2) (mem c) (mem 12 (6 * x + y)) x y)))) := by
  refine q_enter (by decide +kernel) (by simp) (Nat.le_of_ble_eq_true rfl) ?_
  have e : x * 6 + y = 6 * x + y := by omega
  refine bkX11_couldPay_0 hc ⟨q_in_of (by omega) (by omega), q_in_of (by omega) (by omega), by omega⟩ (sp_dropsC hc n hn h9 (fun j a b => by have := hl j a b; omega)) ?_ (P3 := fun _ m1 r m => m = m1 ∧ r = g_s (g_rm (m1 3) (m1 2) (m1 c) y) n) ?_ ?_ ?_
  · rintro r m ⟨rfl, rfl⟩ _ z
    exact ⟨rfl, Or.inr ⟨rfl, fun q => by rw [e] at z; have := q.1; omega⟩⟩
  · rintro r m ⟨rfl, rfl⟩ _ z
    exact sp_roomC hc n hn h9 hl
  · rintro r m ⟨rfl, rfl⟩ _ z r2 m2 ⟨rfl, rfl⟩ _ z2
    exact ⟨rfl, Or.inr ⟨rfl, fun q => by rw [e] at z2; have := q.2; omega⟩⟩
  · rintro r m ⟨rfl, rfl⟩ _ z r2 m2 ⟨rfl, rfl⟩ _ z2
    rw [e] at z z2
    exact ⟨rfl, Or.inl ⟨rfl, z, z2⟩⟩
theorem sp_canPay {b x y : Int} {mem : qm} (n : Nat) (hn : mem 188 0 = n) (h9 : n ≤ 9) (hl : ∀ j : Int, 0 ≤ j → j < n → 0 ≤ mem 207 j ∧ mem 207 j ≤ mem 189 j ∧ mem 189 j ≤ 60) (hx : 0 ≤ x ∧ x < 6) (hy : 0 ≤ y ∧ y < 6) : q_Ev yX12_canPay cX12_canPay 4 (some .boolean) 2 0 0 [(2, 188), (0, x), (0, y)] (q_sh0, q_rb b, mem) (qK (q_rb b) (fun r m => m = mem ∧ ((r = 1 ∧ g_pay n (mem 192) (mem 189) (mem 207) (mem 197 (6 * x + y)) x y) ∨ (r = 0 ∧ ¬ g_pay n (mem 192) (mem 189) (mem 207) (mem 197 (6 * x + y)) x y)))) := by
  refine q_enter (by decide +kernel) (by simp) (Nat.le_of_ble_eq_true rfl) ?_
  refine bkX12_canPay_0 ⟨q_in_of (by omega) (by omega), q_in_of (by omega) (by omega), by omega⟩ (sp_dropsM n hn h9 (fun j a b => by have := hl j a b; omega)) ?_ (P3 := fun _ m1 r m => m = m1 ∧ r = g_s (g_rm (m1 192) (m1 189) (m1 207) y) n) ?_ ?_ ?_
  · rintro r m ⟨rfl, rfl⟩ _ z
    exact ⟨rfl, Or.inr ⟨rfl, fun q => by have := q.1; omega⟩⟩
  · rintro r m ⟨rfl, rfl⟩ _ z
    exact sp_roomM n hn h9 hl
  · rintro r m ⟨rfl, rfl⟩ _ z r2 m2 ⟨rfl, rfl⟩ _ z2
    exact ⟨rfl, Or.inr ⟨rfl, fun q => by have := q.2; omega⟩⟩
  · rintro r m ⟨rfl, rfl⟩ _ z r2 m2 ⟨rfl, rfl⟩ _ z2
    exact ⟨rfl, Or.inl ⟨rfl, z, z2⟩⟩
