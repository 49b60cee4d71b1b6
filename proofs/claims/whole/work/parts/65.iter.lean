/-! ===== bells with every drop, one after the other ===== -/
theorem b_f_en {n : Nat} {u u' c c' h w l o' l' : Int → Int} {F F' : Int → Int → Int} (ok : f_ok n u c h w l) (hu : f_en n u u') (hc : f_en n c c') (ho : f_en n (f_o w h l) o') (hl : f_en n l l') (hF : ∀ j k : Int, 0 ≤ j → j < n → 0 ≤ k → k < l j → F j k = F' j k) : ∀ k : Nat, k ≤ n → ∀ j x : Int, 0 ≤ j → j < n → 0 ≤ x → x < (f_d u c (f_o w h l) l k).1 j → b_f u c (f_o w h l) l F k j x = b_f u' c' o' l' F' k j x
  | 0, _ => by
    intro j x j0 j1 x0 x1
    have a := f_o_in ok j0 j1
    simp only [f_d] at x1
    simp only [b_f]
    rw [← ho j j0 j1]
    exact hF j _ j0 j1 (by omega) (by omega)
  | k + 1, hk => by
    intro j x j0 j1 x0 x1
    have ih := b_f_en ok hu hc ho hl hF k (by omega)
    have a := f_o_in ok (j := (k : Int)) (by omega) (by omega)
    have z := ok.2 (k : Int) (by omega) (by omega)
    have e := (f_d_en hu hc ho hl (fun j a b => (ok.2 j a b).1) k (by omega)).1 j j0 j1
    simp only [b_f]
    rw [← hu k (by omega) (by omega), ← e]
    simp only [f_d] at x1
    by_cases hx : u k ≠ -1 ∧ j = u k ∧ (f_d u c (f_o w h l) l k).1 j ≤ x
    · rw [if_pos hx, if_pos hx]
      rw [if_neg hx.1] at x1
      simp only at x1
      rw [if_pos hx.2.1] at x1
      exact hF k _ (by omega) (by omega) (by omega) (by omega)
    · rw [if_neg hx, if_neg hx]
      refine ih j x j0 j1 x0 ?_
      by_cases h1 : u k = -1
      · rw [if_pos h1] at x1; exact x1
      · rw [if_neg h1] at x1
        simp only at x1
        by_cases h2 : j = u k
        · exact Int.not_le.mp (fun y => hx ⟨h1, h2, y⟩)
        · rw [if_neg h2] at x1; exact x1
theorem b_f_in {n : Nat} {u c h w l : Int → Int} {F : Int → Int → Int} (ok : f_ok n u c h w l) (hF : ∀ j k : Int, 0 ≤ j → j < n → 0 ≤ k → k < l j → 0 ≤ F j k ∧ F j k ≤ 6) : ∀ k : Nat, k ≤ n → ∀ j x : Int, 0 ≤ j → j < n → 0 ≤ x → x < (f_d u c (f_o w h l) l k).1 j → 0 ≤ b_f u c (f_o w h l) l F k j x ∧ b_f u c (f_o w h l) l F k j x ≤ 6
  | 0, _ => by
    intro j x j0 j1 x0 x1
    have a := f_o_in ok j0 j1
    simp only [f_d] at x1
    simp only [b_f]
    exact hF j _ j0 j1 (by omega) (by omega)
  | k + 1, hk => by
    intro j x j0 j1 x0 x1
    have ih := b_f_in ok hF k (by omega)
    have a := f_o_in ok (j := (k : Int)) (by omega) (by omega)
    have z := ok.2 (k : Int) (by omega) (by omega)
    simp only [b_f]
    simp only [f_d] at x1
    by_cases hx : u k ≠ -1 ∧ j = u k ∧ (f_d u c (f_o w h l) l k).1 j ≤ x
    · rw [if_pos hx]
      rw [if_neg hx.1] at x1
      simp only at x1
      rw [if_pos hx.2.1] at x1
      exact hF k _ (by omega) (by omega) (by omega) (by omega)
    · rw [if_neg hx]
      refine ih j x j0 j1 x0 ?_
      by_cases h1 : u k = -1
      · rw [if_pos h1] at x1; exact x1
      · rw [if_neg h1] at x1
        simp only at x1
        by_cases h2 : j = u k
        · exact Int.not_le.mp (fun y => hx ⟨h1, h2, y⟩)
        · rw [if_neg h2] at x1; exact x1
theorem b_c_in {n : Nat} {u c h w l : Int → Int} (ok : f_ok n u c h w l) {k : Nat} (hk : k < n) : 0 ≤ b_c u c (f_o w h l) l k ∧ b_c u c (f_o w h l) l k ≤ f_o w h l k := by
  have a := f_o_in ok (j := (k : Int)) (by omega) (by omega)
  have z := ok.2 (k : Int) (by omega) (by omega)
  unfold b_c
  by_cases hu : u k = -1
  · rw [if_pos hu]; omega
  · rw [if_neg hu]
    have := (f_d_in ok k (by omega)).1 (u k) (by omega) (by omega)
    omega
theorem b_s_in {n : Nat} {u c h w l : Int → Int} {F : Int → Int → Int} {q : Int} (ok : f_ok n u c h w l) : ∀ k : Nat, k ≤ n → 0 ≤ b_s u c (f_o w h l) l F q k ∧ b_s u c (f_o w h l) l F q k ≤ 9 * k
  | 0, _ => by simp [b_s]
  | k + 1, hk => by
    have ih := b_s_in (F := F) (q := q) ok k (by omega)
    have a := f_o_in ok (j := (k : Int)) (by omega) (by omega)
    have b := b_c_in ok (k := k) (by omega)
    have g1 := g_n_in (f := F k) (v := q) (f_o w h l k).toNat
    have g2 := g_n_in (f := F k) (v := q) (b_c u c (f_o w h l) l k).toNat
    have g3 := g_n_mo (f := F k) (v := q) (a := (b_c u c (f_o w h l) l k).toNat) (b := (f_o w h l k).toNat) (by omega)
    simp only [b_s]
    omega
theorem b_c_en {n : Nat} {u u' c c' h w l o' l' : Int → Int} (ok : f_ok n u c h w l) (hu : f_en n u u') (hc : f_en n c c') (ho : f_en n (f_o w h l) o') (hl : f_en n l l') {k : Nat} (hk : k < n) : b_c u c (f_o w h l) l k = b_c u' c' o' l' k := by
  have z := ok.2 (k : Int) (by omega) (by omega)
  have e := (f_d_en hu hc ho hl (fun j a b => (ok.2 j a b).1) k (by omega)).1
  unfold b_c
  rw [← hu k (by omega) (by omega), ← ho k (by omega) (by omega)]
  by_cases h1 : u k = -1
  · rw [if_pos h1, if_pos h1]
  · rw [if_neg h1, if_neg h1, e _ (by omega) (by omega), hc _ (by omega) (by omega)]
theorem b_s_en {n : Nat} {u u' c c' h w l o' l' : Int → Int} {F F' : Int → Int → Int} {q : Int} (ok : f_ok n u c h w l) (hu : f_en n u u') (hc : f_en n c c') (ho : f_en n (f_o w h l) o') (hl : f_en n l l') (hF : ∀ j k : Int, 0 ≤ j → j < n → 0 ≤ k → k < l j → F j k = F' j k) : ∀ k : Nat, k ≤ n → b_s u c (f_o w h l) l F q k = b_s u' c' o' l' F' q k
  | 0, _ => rfl
  | k + 1, hk => by
    have ih := b_s_en (q := q) ok hu hc ho hl hF k (by omega)
    have a := f_o_in ok (j := (k : Int)) (by omega) (by omega)
    have b := b_c_in ok (k := k) (by omega)
    simp only [b_s]
    rw [ih, ← b_c_en ok hu hc ho hl (by omega), ← ho k (by omega) (by omega)]
    rw [g_n_en (f := F k) (g := F' k) (fun i i0 i1 => hF k i (by omega) (by omega) i0 (by omega)), g_n_en (f := F k) (g := F' k) (k := (b_c u c (f_o w h l) l k).toNat) (fun i i0 i1 => hF k i (by omega) (by omega) i0 (by omega))]
theorem g_n_7 {f : Int → Int} : ∀ {k : Nat}, (∀ i : Int, 0 ≤ i → i < k → 0 ≤ f i ∧ f i ≤ 6) → g_n f 0 k + g_n f 1 k + g_n f 2 k + g_n f 3 k + g_n f 4 k + g_n f 5 k + g_n f 6 k = k
  | 0, _ => rfl
  | k + 1, h => by
    have ih := g_n_7 (f := f) (k := k) (fun i a b => h i a (by omega))
    have z := h k (by omega) (by omega)
    simp only [g_n]
    have : f k = 0 ∨ f k = 1 ∨ f k = 2 ∨ f k = 3 ∨ f k = 4 ∨ f k = 5 ∨ f k = 6 := by omega
    rcases this with e | e | e | e | e | e | e <;> rw [e] <;> simp only [Int.reduceEq, if_true, if_false, ite_true, ite_false] <;> omega
theorem b_s_7 {n : Nat} {u c h w l : Int → Int} {F : Int → Int → Int} (ok : f_ok n u c h w l) (hF : ∀ j k : Int, 0 ≤ j → j < n → 0 ≤ k → k < l j → 0 ≤ F j k ∧ F j k ≤ 6) : ∀ k : Nat, k ≤ n → b_s u c (f_o w h l) l F 0 k + b_s u c (f_o w h l) l F 1 k + b_s u c (f_o w h l) l F 2 k + b_s u c (f_o w h l) l F 3 k + b_s u c (f_o w h l) l F 4 k + b_s u c (f_o w h l) l F 5 k + b_s u c (f_o w h l) l F 6 k = (f_d u c (f_o w h l) l k).2
  | 0, _ => rfl
  | k + 1, hk => by
    have ih := b_s_7 ok hF k (by omega)
    have a := f_o_in ok (j := (k : Int)) (by omega) (by omega)
    have b := b_c_in ok (k := k) (by omega)
    have g1 := g_n_7 (f := F k) (k := (f_o w h l k).toNat) (fun i i0 i1 => hF k i (by omega) (by omega) i0 (by omega))
    have g2 := g_n_7 (f := F k) (k := (b_c u c (f_o w h l) l k).toNat) (fun i i0 i1 => hF k i (by omega) (by omega) i0 (by omega))
    have e : (f_d u c (f_o w h l) l (k + 1)).2 = (f_d u c (f_o w h l) l k).2 + (f_o w h l k - b_c u c (f_o w h l) l k) := by
      simp only [f_d]
      unfold b_c
      by_cases hu : u k = -1
      · rw [if_pos hu, if_pos hu]; simp only; omega
      · rw [if_neg hu, if_neg hu]
    rw [e]
    simp only [b_s]
    omega
/-- the class's state s and the reference's water as told -/
def b_st (m : qm) (s : Int) (n : Nat) (u c h : Int → Int) (x : f_S) (F : Int → Int → Int) (sa : Int → Int) (be : Int) : Prop := m 1 3 = n ∧ f_en n (m (s + 6)) u ∧ f_en n (m 2) c ∧ f_en n (m (s + 5)) h ∧ (∀ j : Int, 0 ≤ j → j < n → w_j m s j (x.1 j) (F j) ∧ m (s + 4) j = x.2.1 j) ∧ (∀ q, 0 ≤ q → q < 7 → m (s + 8) q = sa q) ∧ m s 8 = be
def b_mt (m : qm) (n : Nat) (u c h : Int → Int) (x : f_S) (F : Int → Int → Int) (be : Int) : Prop := m 188 0 = n ∧ f_en n (m 194) u ∧ f_en n (m 189) c ∧ f_en n (m 191) h ∧ (∀ j : Int, 0 ≤ j → j < n → w_m m j (x.1 j) (F j) ∧ m 195 j = x.2.1 j) ∧ m 188 10 = be
/-- drops are of the seven origins -/
def b_r (n : Nat) (x : f_S) (F : Int → Int → Int) : Prop := ∀ j k : Int, 0 ≤ j → j < n → 0 ≤ k → k < x.1 j → 0 ≤ F j k ∧ F j k ≤ 6
abbrev x_St (s c i : Int) : Prop := (c = s ∧ 8 ≤ i) ∨ c = s + 1 ∨ c = s + 2 ∨ c = s + 3 ∨ c = s + 4 ∨ c = s + 8 ∨ c = 24 ∨ c = 25
abbrev x_Go (c i : Int) : Prop := c = 190 ∨ c = 195 ∨ c = 196 ∨ c = 202 ∨ c = 203 ∨ (c = 188 ∧ (i = 10 ∨ i = 11))
theorem sp_strikeS {b s : Int} {m : qm} {n : Nat} {u c h : Int → Int} {x : f_S} {F : Int → Int → Int} {sa : Int → Int} {be : Int} (hs : q_st s) (st : b_st m s n u c h x F sa be) (ok : f_OK n u c h x) (hr : b_r n x F) (hsa : ∀ q, 0 ≤ q → q < 7 → 0 ≤ sa q ∧ sa q ≤ 400000000) (hbe : 0 ≤ be ∧ be ≤ 400000000) :
    q_Ev yX0_strike cX0_strike 3 none 4 0 0 [(2, 23), (2, s)] (q_sh0, q_rb b, m) (qK (q_rb b) (fun _ m' => b_st m' s n u c h (f_b n u c h x) (b_f u c (f_o x.2.1 h x.1) x.1 F n) (fun q => sa q + b_s u c (f_o x.2.1 h x.1) x.1 F q n) (be + 1) ∧ m' s 9 = 0 ∧ q_fx (x_St s) m m')) := by
  obtain ⟨s1, s2, s3, s4, s5, s6, s7⟩ := st
  have hg := qst_gap hs
  have eL : f_en n (m (s + 3)) x.1 := fun j a b => (s5 j a b).1.1
  have eW : f_en n (m (s + 4)) x.2.1 := fun j a b => (s5 j a b).2
  have sy : ∀ {p q : Int → Int}, f_en n p q → f_en n q p := fun e j a b => (e j a b).symm
  have ok2 : f_ok n (m (s + 6)) (m 2) (m (s + 5)) (m (s + 4)) (m (s + 3)) := f_OK.en (y := (m (s + 3), m (s + 4), 0)) (x := (x.1, x.2.1, 0)) ok (sy s2) (sy s3) (sy s4) ⟨fun j a b => ⟨(eL j a b).symm, (eW j a b).symm⟩, rfl⟩
  have eO : f_en n (f_o (m (s + 4)) (m (s + 5)) (m (s + 3))) (f_o x.2.1 h x.1) := f_o_en eW s4 eL
  refine (sp_strikeC hs n s1 ok2 F (fun j a b => by rw [eL j a b]; exact (s5 j a b).1) (fun j k a b c d => hr j k a b c (by rw [← eL j a b]; exact d)) (fun q q0 q1 => by rw [s6 q q0 q1]; exact hsa q q0 q1) (by rw [s7]; exact hbe)).post ?_
  rintro r m' ⟨h1, h2, h3, h4, h5⟩
  have dd := f_d_en s2 s3 eO eL (fun j a b => (ok2.2 j a b).1) n (Nat.le_refl n)
  refine ⟨⟨(h5 _ _ (by omega)).trans s1, fun j a b => (h5 _ _ (by omega)).trans (s2 j a b), fun j a b => (h5 _ _ (by omega)).trans (s3 j a b), fun j a b => (h5 _ _ (by omega)).trans (s4 j a b), fun j a b => ⟨?_, ?_⟩, fun q q0 q1 => ?_, by rw [h3, s7]⟩, h4, h5⟩
  · have z := (h1 j a b).1
    have e := dd.1 j a b
    refine (show w_j m' s j ((f_b n u c h x).1 j) _ from e ▸ z).en (fun k k0 k1 => ?_)
    exact b_f_en ok2 s2 s3 eO eL (fun _ _ _ _ _ _ => rfl) n (Nat.le_refl n) j k a b k0 (by rw [e]; exact k1)
  · rw [(h1 j a b).2, eW j a b]; rfl
  · rw [h2 q q0 q1, s6 q q0 q1, b_s_en ok2 s2 s3 eO eL (fun _ _ _ _ _ _ => rfl) n (Nat.le_refl n)]
theorem sp_goBellS {b : Int} {m : qm} {n : Nat} {u c h : Int → Int} {x : f_S} {F : Int → Int → Int} {be : Int} (st : b_mt m n u c h x F be) (ok : f_OK n u c h x) (hbe : 0 ≤ be ∧ be ≤ 400000000) (hlo : 0 ≤ m 188 11 ∧ m 188 11 ≤ 400000000) :
    q_Ev yX12_goBell cX12_goBell 6 (some .int) 2 0 0 [(2, 188)] (q_sh0, q_rb b, m) (qK (q_rb b) (fun r m' => b_mt m' n u c h (f_b n u c h x) (b_f u c (f_o x.2.1 h x.1) x.1 F n) (be + 1) ∧ r = (f_d u c (f_o x.2.1 h x.1) x.1 n).2 ∧ m' 188 11 = m 188 11 + r ∧ q_fx x_Go m m')) := by
  obtain ⟨s1, s2, s3, s4, s5, s7⟩ := st
  have eL : f_en n (m 190) x.1 := fun j a b => (s5 j a b).1.1
  have eW : f_en n (m 195) x.2.1 := fun j a b => (s5 j a b).2
  have sy : ∀ {p q : Int → Int}, f_en n p q → f_en n q p := fun e j a b => (e j a b).symm
  have ok2 : f_ok n (m 194) (m 189) (m 191) (m 195) (m 190) := f_OK.en (y := (m 190, m 195, 0)) (x := (x.1, x.2.1, 0)) ok (sy s2) (sy s3) (sy s4) ⟨fun j a b => ⟨(eL j a b).symm, (eW j a b).symm⟩, rfl⟩
  have eO : f_en n (f_o (m 195) (m 191) (m 190)) (f_o x.2.1 h x.1) := f_o_en eW s4 eL
  refine (sp_goBell n s1 ok2 F (fun j a b => by rw [eL j a b]; exact (s5 j a b).1) (by rw [s7]; exact hbe) hlo).post ?_
  rintro r m' ⟨h1, h2, h3, h4, h5⟩
  have dd := f_d_en s2 s3 eO eL (fun j a b => (ok2.2 j a b).1) n (Nat.le_refl n)
  refine ⟨⟨(h5 _ _ (by omega)).trans s1, fun j a b => (h5 _ _ (by omega)).trans (s2 j a b), fun j a b => (h5 _ _ (by omega)).trans (s3 j a b), fun j a b => (h5 _ _ (by omega)).trans (s4 j a b), fun j a b => ⟨?_, ?_⟩, by rw [h3, s7]⟩, by rw [h2, dd.2], by rw [h4, h2], h5⟩
  · have z := (h1 j a b).1
    have e := dd.1 j a b
    refine (show w_m m' j ((f_b n u c h x).1 j) _ from e ▸ z).en (fun k k0 k1 => ?_)
    exact b_f_en ok2 s2 s3 eO eL (fun _ _ _ _ _ _ => rfl) n (Nat.le_refl n) j k a b k0 (by rw [e]; exact k1)
  · rw [(h1 j a b).2, eW j a b]; rfl
/-- the drops v bells on, and what of q is lost till then -/
def b_F (n : Nat) (u c h : Int → Int) (x : f_S) (F : Int → Int → Int) : Nat → Int → Int → Int
  | 0 => F
  | v + 1 => b_f u c (f_o (f_it n u c h v x).2.1 h (f_it n u c h v x).1) (f_it n u c h v x).1 (b_F n u c h x F v) n
def b_S (n : Nat) (u c h : Int → Int) (x : f_S) (F : Int → Int → Int) (q : Int) : Nat → Int
  | 0 => 0
  | v + 1 => b_S n u c h x F q v + b_s u c (f_o (f_it n u c h v x).2.1 h (f_it n u c h v x).1) (f_it n u c h v x).1 (b_F n u c h x F v) q n
theorem b_F_in {n : Nat} {u c h : Int → Int} {x : f_S} {F : Int → Int → Int} (ok : f_OK n u c h x) (hr : b_r n x F) : ∀ v : Nat, b_r n (f_it n u c h v x) (b_F n u c h x F v)
  | 0 => hr
  | v + 1 => by
    have := b_F_in ok hr v
    intro j k j0 j1 k0 k1
    exact b_f_in (ok.it v) this n (Nat.le_refl n) j k j0 j1 k0 k1
theorem b_S_in {n : Nat} {u c h : Int → Int} {x : f_S} {F : Int → Int → Int} {q : Int} (ok : f_OK n u c h x) : ∀ v : Nat, 0 ≤ b_S n u c h x F q v ∧ b_S n u c h x F q v ≤ 81 * v
  | 0 => by simp [b_S]
  | v + 1 => by
    have ih := b_S_in (F := F) (q := q) ok v
    have a := b_s_in (F := b_F n u c h x F v) (q := q) (ok.it v) n (Nat.le_refl n)
    have b := ok.1
    simp only [b_S]
    omega
theorem b_S_7 {n : Nat} {u c h : Int → Int} {x : f_S} {F : Int → Int → Int} (ok : f_OK n u c h x) (hr : b_r n x F) : ∀ v : Nat, b_S n u c h x F 0 v + b_S n u c h x F 1 v + b_S n u c h x F 2 v + b_S n u c h x F 3 v + b_S n u c h x F 4 v + b_S n u c h x F 5 v + b_S n u c h x F 6 v = (f_it n u c h v x).2.2 - x.2.2
  | 0 => by simp only [b_S, f_it]; omega
  | v + 1 => by
    have ih := b_S_7 ok hr v
    have a := b_s_7 (ok.it v) (b_F_in ok hr v) n (Nat.le_refl n)
    have e : (f_it n u c h (v + 1) x).2.2 = (f_it n u c h v x).2.2 + (f_d u c (f_o (f_it n u c h v x).2.1 h (f_it n u c h v x).1) (f_it n u c h v x).1 n).2 := rfl
    simp only [b_S]
    omega
