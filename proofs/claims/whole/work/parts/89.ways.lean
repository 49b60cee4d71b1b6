/-! ===== looks ===== -/
theorem q_cp_in {f : qm} {c0 sp c1 dp n i : Int} (h0 : dp ≤ i) (h1 : i < dp + n) : q_cp f c0 sp c1 dp n c1 i = f c0 (sp + (i - dp)) := by unfold q_cp; rw [if_pos ⟨rfl, h0, h1⟩]
theorem q_cp_out {f : qm} {c0 sp c1 dp n i : Int} (h : ¬ (dp ≤ i ∧ i < dp + n)) : q_cp f c0 sp c1 dp n c1 i = f c1 i := by unfold q_cp; rw [if_neg (fun z => h z.2)]
def a_ly (G : Int → f_S) (h : Int → Int) : Nat → Int × (Int → Int → Int)
  | 0 => (0, fun _ _ => 0)
  | w + 1 => if h w = 9 then a_ly G h w else ((a_ly G h w).1 + 1, fun i j => if i = (a_ly G h w).1 then (G w).1 j else (a_ly G h w).2 i j)
theorem a_ly_in {G : Int → f_S} {h : Int → Int} : ∀ y : Nat, 0 ≤ (a_ly G h y).1 ∧ (a_ly G h y).1 ≤ y
  | 0 => by simp [a_ly]
  | y + 1 => by
    have := a_ly_in (G := G) (h := h) y
    simp only [a_ly]
    split
    · omega
    · show 0 ≤ (a_ly G h y).1 + 1 ∧ (a_ly G h y).1 + 1 ≤ _
      omega
def a_lk (wr : Int → Int) : Nat → Int × Int
  | 0 => (-1, 0)
  | y + 1 => if y = 0 ∨ wr y < (a_lk wr y).2 then ((y : Int), wr y) else a_lk wr y
theorem a_lk_in {wr : Int → Int} : ∀ y : Nat, 0 < y → 0 ≤ (a_lk wr y).1 ∧ (a_lk wr y).1 < y
  | 0, h => absurd h (by omega)
  | y + 1, _ => by
    simp only [a_lk]
    split
    · show 0 ≤ (y : Int) ∧ (y : Int) < _
      omega
    · rename_i h
      have := a_lk_in (wr := wr) y (by omega)
      omega
theorem sp_waysLike {b j w y : Int} {m : qm} {K : Nat} {f : Int → Int} (hK : K ≤ 10) (hj : 0 ≤ j ∧ j < 9) (hm : ∀ i : Int, 0 ≤ i → i < K → m 168 (i * 9 + j) = f i) (hw : 0 ≤ w ∧ w < K) (hy : 0 ≤ y ∧ y ≤ K) : q_Ev yX11_waysLike cX11_waysLike 8 (some .int) 1 0 0 [(2, 0), (0, j), (0, w), (0, 0), (0, y)] (q_sh0, q_rb b, m) (qK (q_rb b) (fun r m' => m' = m ∧ r = g_n f (f w) y.toNat)) := by
  refine q_enter (by decide +kernel) (by simp) (Nat.le_of_ble_eq_true rfl) ?_
  refine bkX11_waysLike_0 ⟨q_in_of (by omega) (by omega), q_in_of (by omega) (by omega), by omega⟩ ?_
  rw [hm w hw.1 hw.2]
  refine q_for1 (A := fun i (x : Int) m' => q_At yX11_waysLike cX11_waysLike 8 (some .int) 1 0 0 _ 19 [(2, 0), (0, j), (0, w), (0, 0), (0, y), (0, f w), (0, x), (0, i)] [] (q_sh0, q_rb b, m')) (fun i x m' => ∃ z : Nat, i = z ∧ (z : Int) ≤ y ∧ m' = m ∧ x = g_n f (f w) z) y ?_ ?_ 0 0 m ⟨0, rfl, by omega, rfl, rfl⟩
  · rintro i x m' hi ⟨z, rfl, hz, rfl, rfl⟩
    have : z = y.toNat := by omega
    subst this
    exact bkX11_waysLike_19 (fun _ => ⟨rfl, rfl⟩) (fun z => absurd z (by omega)) (fun z => absurd z (by omega)) (fun z => absurd z (by omega)) (fun z => absurd z (by omega)) (fun z => absurd z (by omega))
  · rintro i x m' hi ⟨z, rfl, hz, rfl, rfl⟩ ih
    have e := hm z (by omega) (by omega)
    have p := g_n_in (f := f) (v := f w) z
    refine bkX11_waysLike_19 (fun z => absurd z (by omega)) (fun _ => ⟨q_in_of (by omega) (by omega), q_in_of (by omega) (by omega), by omega⟩) (fun _ _ => q_in_of (by omega) (by omega)) (fun _ h => ih _ _ ⟨z + 1, by omega, by omega, rfl, ?_⟩) (fun _ _ => ⟨q_in_of (by omega) (by omega), q_in_of (by omega) (by omega)⟩) (fun _ h => ih _ _ ⟨z + 1, by omega, by omega, rfl, ?_⟩)
    · simp only [g_n]; rw [if_neg (by rw [← e]; exact h)]; omega
    · simp only [g_n]; rw [if_pos (by rw [← e]; exact h)]
theorem sp_mostAlike {b j : Int} {m : qm} {K : Nat} {f : Int → Int} (hK : K ≤ 10) (hj : 0 ≤ j ∧ j < 9) (hm : ∀ i : Int, 0 ≤ i → i < K → m 168 (i * 9 + j) = f i) : q_Ev yX11_mostAlike cX11_mostAlike 5 (some .int) 2 0 0 [(2, 0), (0, j), (0, (K : Int))] (q_sh0, q_rb b, m) (qK (q_rb b) (fun r m' => m' = m ∧ r = a_wr f K K)) := by
  refine q_enter (by decide +kernel) (by simp) (Nat.le_of_ble_eq_true rfl) ?_
  refine bkX11_mostAlike_0 ?_
  refine q_for1 (A := fun i (x : Int) m' => q_At yX11_mostAlike cX11_mostAlike 5 (some .int) 2 0 0 _ 5 [(2, 0), (0, j), (0, (K : Int)), (0, x), (0, i)] [] (q_sh0, q_rb b, m')) (fun i x m' => ∃ z : Nat, i = z ∧ z ≤ K ∧ m' = m ∧ x = a_wr f K z) K ?_ ?_ 0 0 m ⟨0, rfl, by omega, rfl, rfl⟩
  · rintro i x m' hi ⟨z, rfl, hz, rfl, rfl⟩
    have : z = K := by omega
    subst this
    exact bkX11_mostAlike_5 (P2 := fun _ _ => True) (fun _ => ⟨rfl, rfl⟩) (fun z => absurd z (by omega)) (fun z => absurd z (by omega)) (fun z => absurd z (by omega))
  · rintro i x m' hi ⟨z, rfl, hz, rfl, rfl⟩ ih
    refine bkX11_mostAlike_5 (fun z => absurd z (by omega)) (fun _ => sp_waysLike hK hj hm ⟨by omega, by omega⟩ ⟨by omega, by omega⟩) (fun _ _ _ _ _ => q_in_of (by omega) (by omega)) ?_
    rintro _ r2 m2 ⟨rfl, rfl⟩ _
    exact ih _ _ ⟨z + 1, by omega, by omega, rfl, by simp only [a_wr, Int.toNat_natCast]⟩
theorem sp_unlike {b j : Int} {m : qm} {K : Nat} {f : Int → Int} (hK : K ≤ 10) (hj : 0 ≤ j ∧ j < 9) (hm : ∀ i : Int, 0 ≤ i → i < K → m 168 (i * 9 + j) = f i) : q_Ev yX11_unlikeLevels cX11_unlikeLevels 5 (some .int) 2 0 0 [(2, 0), (0, j), (0, (K : Int))] (q_sh0, q_rb b, m) (qK (q_rb b) (fun r m' => m' = m ∧ r = a_un f K)) := by
  refine q_enter (by decide +kernel) (by simp) (Nat.le_of_ble_eq_true rfl) ?_
  refine bkX11_unlikeLevels_0 ?_
  refine q_for1 (A := fun i (x : Int) m' => q_At yX11_unlikeLevels cX11_unlikeLevels 5 (some .int) 2 0 0 _ 5 [(2, 0), (0, j), (0, (K : Int)), (0, x), (0, i)] [] (q_sh0, q_rb b, m')) (fun i x m' => ∃ z : Nat, i = z ∧ z ≤ K ∧ m' = m ∧ x = a_un f z) K ?_ ?_ 0 0 m ⟨0, rfl, by omega, rfl, rfl⟩
  · rintro i x m' hi ⟨z, rfl, hz, rfl, rfl⟩
    have : z = K := by omega
    subst this
    exact bkX11_unlikeLevels_5 (P2 := fun _ _ => True) (fun _ => ⟨rfl, rfl⟩) (fun z => absurd z (by omega)) (fun z => absurd z (by omega)) (fun z => absurd z (by omega)) (fun z => absurd z (by omega)) (fun z => absurd z (by omega))
  · rintro i x m' hi ⟨z, rfl, hz, rfl, rfl⟩ ih
    have p := a_un_in (f := f) z
    refine bkX11_unlikeLevels_5 (fun z => absurd z (by omega)) (fun _ => sp_waysLike hK hj hm ⟨by omega, by omega⟩ ⟨by omega, by omega⟩) (fun _ _ _ _ _ _ => q_in_of (by omega) (by omega)) ?_ (fun _ _ _ _ _ _ => ⟨q_in_of (by omega) (by omega), q_in_of (by omega) (by omega)⟩) ?_
    · rintro _ r2 m2 ⟨rfl, rfl⟩ _ h
      rw [Int.toNat_natCast] at h
      exact ih _ _ ⟨z + 1, by omega, by omega, rfl, by simp only [a_un]; rw [if_neg h]; omega⟩
    · rintro _ r2 m2 ⟨rfl, rfl⟩ _ h
      rw [Int.toNat_natCast] at h
      exact ih _ _ ⟨z + 1, by omega, by omega, rfl, by simp only [a_un]; rw [if_pos h]⟩
abbrev x_lC (c i : Int) : Prop := x_F c i ∨ c = 168
abbrev x_lM (c i : Int) : Prop := x_G c i ∨ c = 221
theorem x_lC_Sc : ∀ c i, x_lC c i → x_Sc c i := fun c i z => by
  rcases z with z | z
  · exact x_F_Sc c i z
  · subst z; exact ⟨by decide, by simp [x_A, x_T, x_P, x_N, x_X, x_S, x_U, x_K, x_L]⟩
theorem x_lM_Sr : ∀ c i, x_lM c i → x_Sr c i := fun c i z => by
  rcases z with z | z
  · exact x_G_Sr c i z
  · subst z; exact ⟨by decide, by simp [x_A, x_T, x_P, x_N, x_X, x_S, x_U, x_K, x_L]⟩
def a_lG (n : Nat) (T : a_T) (A : a_W) (q : Nat) (d : Int) : f_S := f_it n T.2.2.2.2 T.1 (if d = -1 then T.2.2.2.1 else a_ho T d (T.2.2.2.1 d + 1)) q (a_x0 A)
theorem sp_findWays {b B : Int} {m : qm} {n q : Nat} {T : a_T} {A : a_W} (T1 : c_T m n T) (W1 : c_W m 5 n A) (T3 : a_TV n T) (W3 : a_V B n T.1 A) (hn : n ≠ 0) (hq : q ≤ 200) : q_Ev yX11_findWays cX11_findWays 4 (some .int) 4 0 0 [(2, 0), (0, (q : Int))] (q_sh0, q_rb b, m) (qK (q_rb b) (fun r m' => r = (a_ly (a_lG n T A q) T.2.2.2.1 n).1 + 1 ∧ (∀ j : Int, 0 ≤ j → j < n → m' 168 j = (a_lG n T A q (-1)).1 j) ∧ (∀ i j : Int, 0 ≤ i → i < (a_ly (a_lG n T A q) T.2.2.2.1 n).1 → 0 ≤ j → j < n → m' 168 ((i + 1) * 9 + j) = (a_ly (a_lG n T A q) T.2.2.2.1 n).2 i j) ∧ q_fx x_lC m m')) := by
  have h9 := T3.1
  have e0 := T1.1
  have ok0 := a_OK0 T3 W3
  generalize hG : a_lG n T A q = G
  refine q_enter (by decide +kernel) (by simp) (Nat.le_of_ble_eq_true rfl) ?_
  refine bkX11_findWays_0 ?_
  have go : ∀ (m' : qm), (∀ j : Int, 0 ≤ j → j < n → m' 168 j = (G (-1)).1 j) → q_fx x_lC m m' → q_At yX11_findWays cX11_findWays 4 (some .int) 4 0 0 (qK (q_rb b) (fun r m' => r = (a_ly G T.2.2.2.1 n).1 + 1 ∧ (∀ j : Int, 0 ≤ j → j < n → m' 168 j = (G (-1)).1 j) ∧ (∀ i j : Int, 0 ≤ i → i < (a_ly G T.2.2.2.1 n).1 → 0 ≤ j → j < n → m' 168 ((i + 1) * 9 + j) = (a_ly G T.2.2.2.1 n).2 i j) ∧ q_fx x_lC m m')) 4 [(2, 0), (0, (q : Int)), (0, 1), (0, 0)] [] (q_sh0, q_rb b, m') := by
    intro m0 hm0 f0
    refine q_for1 (A := fun i (x : Int) m' => q_At yX11_findWays cX11_findWays 4 (some .int) 4 0 0 _ 4 [(2, 0), (0, (q : Int)), (0, x), (0, i)] [] (q_sh0, q_rb b, m')) (fun i x m' => ∃ y : Nat, i = y ∧ y ≤ n ∧ x = (a_ly G T.2.2.2.1 y).1 + 1 ∧ (∀ j : Int, 0 ≤ j → j < n → m' 168 j = (G (-1)).1 j) ∧ (∀ i j : Int, 0 ≤ i → i < (a_ly G T.2.2.2.1 y).1 → 0 ≤ j → j < n → m' 168 ((i + 1) * 9 + j) = (a_ly G T.2.2.2.1 y).2 i j) ∧ q_fx x_lC m m') n ?_ ?_ 0 1 m0 ⟨0, rfl, by omega, by simp [a_ly], hm0, fun i j a c => absurd c (by simp [a_ly]; omega), f0⟩
    · rintro i x m' hi ⟨y, rfl, hy, rfl, h1, h2, fx⟩
      have : y = n := by omega
      subst this
      have t1 : m' 1 3 = y := (fx _ _ (by unfold x_lC x_F; omega)).trans e0
      exact bkX11_findWays_4 (P3 := fun _ _ => True) (P5 := fun _ _ _ _ => True) (P6 := fun _ _ _ _ => True) (P8 := fun _ _ => True) (P10 := fun _ _ _ _ => True) (P11 := fun _ _ _ _ => True) (fun _ => ⟨rfl, h1, h2, fx⟩) (fun z => absurd z (by omega)) (fun z => absurd z (by omega)) (fun z => absurd z (by omega)) (fun z => absurd z (by omega)) (fun z => absurd z (by omega)) (fun z => absurd z (by omega)) (fun z => absurd z (by omega)) (fun z => absurd z (by omega)) (fun z => absurd z (by omega)) (fun z => absurd z (by omega)) (fun z => absurd z (by omega)) (fun z => absurd z (by omega)) (fun z => absurd z (by omega)) (fun z => absurd z (by omega)) (fun z => absurd z (by omega)) (fun z => absurd z (by omega)) (fun z => absurd z (by omega)) (fun z => absurd z (by omega)) (fun z => absurd z (by omega))
    · rintro i x m' hi ⟨y, rfl, hy, rfl, h1, h2, fx⟩ ih
      have T1' := T1.fr fx (by unfold x_lC x_F; omega)
      have W1' := W1.fr fx (by unfold x_lC x_F w_z; omega)
      have t1 := T1'.1
      have ly := a_ly_in (G := G) (h := T.2.2.2.1) y
      have hy1 : (y : Int) ≠ -1 := by omega
      have eh : m' 10 y = T.2.2.2.1 y := T1'.2.2.2.2.1 y (by omega) (by omega)
      have th := (T3.2 y (by omega) (by omega))
      have hin : q_in32 ((y : Int) + 1) := q_in_of (by omega) (by omega)
      refine bkX11_findWays_4 (P3 := fun _ _ => True) (P5 := fun _ _ _ _ => True) (P6 := fun _ _ _ _ => True) (P8 := fun _ m1 => f_c0 n m1 T.2.2.2.2 T.1 T.2.2.2.1 (a_x0 A) ∧ (∀ i, 0 ≤ i → i < 9 → m1 32 i = -1) ∧ q_fx x_f m' m1) (P10 := fun _ _ _ _ => True) (P11 := fun _ _ _ m3 => (∀ j : Int, 0 ≤ j → j < n → m3 27 j = (G y).1 j) ∧ q_fx x_f m' m3) (fun z => absurd z (by omega)) (fun _ z => absurd z hy1) (fun _ z => absurd z hy1) (fun _ z => absurd z hy1) (fun _ z => absurd z hy1) (fun _ z => absurd z hy1) (fun _ z => absurd z hy1) (fun _ z => absurd z hy1) (fun _ z => absurd z hy1)
        (fun _ _ => by omega) (fun _ _ _ => sp_startW T1' W1' h9) (fun _ _ _ _ _ _ _ z => absurd z hy1) (fun _ _ _ _ _ _ _ z => absurd z hy1) (fun _ _ _ _ _ _ _ z => absurd z hy1) ?_ ?_ (fun _ _ _ _ _ _ _ _ _ _ _ _ => ⟨q_in_of (by omega) (by omega), by omega, by omega, by omega, by omega, by omega, q_in_of (by omega) (by omega), hin⟩) ?_ (fun _ _ _ => hin) (fun _ _ z => ?_)
      · rintro _ _ _ r8 m8 ⟨g, -, f8⟩ _ _
        have := g.2.2.2.2.1 y (by omega) (by omega)
        exact q_in_of (by omega) (by omega)
      · rintro _ _ h9' r8 m8 ⟨g, -, f8⟩ _ _
        have e28 := g.2.2.2.2.1 y (by omega) (by omega)
        rw [e28]
        have okh := a_ho_ok T3 W3 (j := (y : Int)) (w := T.2.2.2.1 y + 1) (by omega)
        have c := (g.ho (T := T) (j := (y : Int)) (w := T.2.2.2.1 y + 1)).cl okh
        refine (sp_allF c q (by have e : (a_x0 A).2.2 = 0 := rfl; omega)).post (fun r m3 z => ⟨fun j a b => ?_, ?_⟩)
        · rw [z.1.lv j a b, ← hG]; unfold a_lG; rw [if_neg hy1]
        · exact (f8.up (by unfold x_f; omega)).tr (z.2.mono (fun c i z => by unfold x_f; omega))
      · rintro _ _ h9' r8 m8 - _ _ r11 m11 ⟨l11, f11⟩ _
        have nh : ¬ T.2.2.2.1 y = 9 := by omega
        refine ih _ _ ⟨y + 1, by omega, by omega, by simp only [a_ly]; rw [if_neg nh], fun j a b => ?_, fun i j a b c d => ?_, ?_⟩
        · rw [q_cp_out (by omega), f11 _ _ (by unfold x_f; omega)]; exact h1 j a b
        · simp only [a_ly] at b ⊢
          rw [if_neg nh] at b ⊢
          have b : i < (a_ly G T.2.2.2.1 y).1 + 1 := b
          show _ = if i = (a_ly G T.2.2.2.1 y).1 then (G y).1 j else (a_ly G T.2.2.2.1 y).2 i j
          by_cases hi : i = (a_ly G T.2.2.2.1 y).1
          · rw [if_pos hi, q_cp_in (by omega) (by omega), show 0 + ((i + 1) * 9 + j - ((a_ly G T.2.2.2.1 y).1 + 1) * 9) = j by omega]
            exact l11 j c d
          · rw [if_neg hi, q_cp_out (by omega), f11 _ _ (by unfold x_f; omega)]; exact h2 i j a (by omega) c d
        · have F := fx.tr (f11.mono (fun c i z => by unfold x_f at z; unfold x_lC x_F; omega))
          intro c i z
          rw [q_cp_c (by intro e; exact z (Or.inr e))]; exact F c i z
      · have nh : T.2.2.2.1 y = 9 := by omega
        exact ih _ m' ⟨y + 1, by omega, by omega, by simp only [a_ly]; rw [if_pos nh], h1, by simp only [a_ly]; rw [if_pos nh]; exact h2, fx⟩
  refine bkX11_findWays_4 (P5 := fun _ _ _ m3 => (∀ j : Int, 0 ≤ j → j < n → m3 27 j = (G (-1)).1 j) ∧ q_fx x_f m m3) (P6 := fun _ _ _ _ => True) (P8 := fun _ _ => True) (P10 := fun _ _ _ _ => True) (P11 := fun _ _ _ _ => True) (fun z => absurd z (by omega)) (fun _ _ => sp_startW T1 W1 h9) ?_ (fun _ _ _ _ _ _ _ _ _ _ _ => ⟨q_in_of (by decide) (by decide), by decide, by decide, by decide, by decide, by decide, q_in_of (by decide) (by decide), q_in_of (by decide) (by decide)⟩) ?_ (fun _ _ _ _ _ _ z => absurd rfl z) (fun _ _ _ _ _ _ z => absurd rfl z) (fun _ _ _ _ _ _ z => absurd rfl z) (fun _ _ _ _ _ _ z => absurd rfl z) (fun _ z => absurd rfl z) (fun _ z => absurd rfl z) (fun _ z => absurd rfl z) (fun _ z => absurd rfl z) (fun _ z => absurd rfl z) (fun _ z => absurd rfl z) (fun _ z => absurd rfl z) (fun _ z => absurd rfl z) (fun _ z => absurd rfl z) (fun _ z => absurd rfl z) (fun _ z => absurd rfl z)
  · rintro _ _ r3 m3 ⟨g, -, f3⟩ _ _
    refine (sp_allF (g.cl ok0) q (by have e : (a_x0 A).2.2 = 0 := rfl; omega)).post (fun r m5 z => ⟨fun j a b => ?_, ?_⟩)
    · rw [z.1.lv j a b, ← hG]; unfold a_lG; rw [if_pos rfl]
    · exact f3.tr (z.2.mono (fun c i z => by unfold x_f; omega))
  · rintro _ _ r3 m3 - _ _ r5 m5 ⟨l5, f5⟩ _
    refine go _ (fun j a b => ?_) ?_
    · rw [q_cp_in (by omega) (by omega), show 0 + (j - 0 * 9) = j by omega]; exact l5 j a b
    · have F : q_fx x_lC m m5 := f5.mono (fun c i z => by unfold x_f at z; unfold x_lC x_F; omega)
      intro c i z
      rw [q_cp_c (by intro e; exact z (Or.inr e))]; exact F c i z
