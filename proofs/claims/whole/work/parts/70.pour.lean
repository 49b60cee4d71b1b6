/-! ===== springs and pourings ===== -/
def a_spr (A : a_W) (j v cm : Int) : a_W := ((fun i => if i = j then A.1.1 i + cm else A.1.1 i, A.1.2.1, A.1.2.2), fun i k => if i = j ∧ A.1.1 j ≤ k then v else A.2.1 i k, A.2.2)
def a_pour (T : a_T) (A : a_W) (x y w : Int) : a_W := ((fun i => if i = x then A.1.1 i - w else if i = y then A.1.1 i + w else A.1.1 i, A.1.2.1, A.1.2.2), fun i k => if i = x then A.2.1 x (k + w) else if i = y ∧ A.1.1 y ≤ k then A.2.1 x (k - A.1.1 y) else A.2.1 i k, fun d => if d = 6 * T.2.1 x + T.2.1 y then max 0 (A.2.2.1 d - w) else A.2.2.1 d, A.2.2.2)
def a_can (n : Nat) (T : a_T) (A : a_W) (x y w : Int) : Int := if (0 ≤ x ∧ x < n) ∧ (0 ≤ y ∧ y < n) ∧ x ≠ y ∧ 1 ≤ w then (if A.1.1 x < w then -2 else if T.1 y - A.1.1 y < w then -3 else w) else -1
theorem a_can_ok {n : Nat} {T : a_T} {A : a_W} {x y w : Int} (h : 0 < a_can n T A x y w) : (0 ≤ x ∧ x < n) ∧ (0 ≤ y ∧ y < n) ∧ x ≠ y ∧ 1 ≤ w ∧ w ≤ A.1.1 x ∧ w ≤ T.1 y - A.1.1 y ∧ a_can n T A x y w = w := by
  unfold a_can at h ⊢
  split at h
  · rename_i z
    rw [if_pos z]
    split at h
    · omega
    · split at h
      · omega
      · rename_i z1 z2
        rw [if_neg z1, if_neg z2]
        exact ⟨z.1, z.2.1, z.2.2.1, z.2.2.2, by omega, by omega, rfl⟩
  · omega
theorem a_V.spr {B : Int} {n : Nat} {T : a_T} {A : a_W} (v : a_V B n T.1 A) {j o cm : Int} (hj : 0 ≤ j ∧ j < n) (ho : 0 ≤ o ∧ o ≤ 6) (hc : 0 ≤ cm ∧ cm ≤ T.1 j - A.1.1 j) : a_V B n T.1 (a_spr A j o cm) := by
  obtain ⟨a, r, b⟩ := v
  refine ⟨fun i i0 i1 => ?_, fun i k i0 i1 k0 k1 => ?_, b⟩
  · have := a i i0 i1
    show 0 ≤ (if i = j then A.1.1 i + cm else A.1.1 i) ∧ (if i = j then A.1.1 i + cm else A.1.1 i) ≤ T.1 i ∧ _
    by_cases h : i = j
    · subst h; rw [if_pos rfl]; exact ⟨by omega, by omega, this.2.2⟩
    · rw [if_neg h]; exact this
  · show 0 ≤ (if i = j ∧ A.1.1 j ≤ k then o else A.2.1 i k) ∧ (if i = j ∧ A.1.1 j ≤ k then o else A.2.1 i k) ≤ 6
    by_cases h : i = j ∧ A.1.1 j ≤ k
    · rw [if_pos h]; exact ho
    · rw [if_neg h]
      refine r i k i0 i1 k0 ?_
      have k1 : k < if i = j then A.1.1 i + cm else A.1.1 i := k1
      by_cases h2 : i = j
      · subst h2; exact Int.not_le.mp (fun z => h ⟨rfl, z⟩)
      · rw [if_neg h2] at k1; exact k1
theorem a_V.pour {B : Int} {n : Nat} {T : a_T} {A : a_W} (t : a_TV n T) (v : a_V B n T.1 A) {x y w : Int} (hx : 0 ≤ x ∧ x < n) (hy : 0 ≤ y ∧ y < n) (hne : x ≠ y) (h1 : 1 ≤ w) (h2 : w ≤ A.1.1 x) (h3 : w ≤ T.1 y - A.1.1 y) : a_V B n T.1 (a_pour T A x y w) := by
  obtain ⟨a, r, b, d, e⟩ := v
  have tx := t.2 x hx.1 hx.2
  have ty := t.2 y hy.1 hy.2
  refine ⟨fun i i0 i1 => ?_, fun i k i0 i1 k0 k1 => ?_, fun q q0 q1 => ?_, fun q q0 q1 => ?_, e⟩
  · have := a i i0 i1
    show 0 ≤ (if i = x then A.1.1 i - w else if i = y then A.1.1 i + w else A.1.1 i) ∧ (if i = x then A.1.1 i - w else if i = y then A.1.1 i + w else A.1.1 i) ≤ T.1 i ∧ _
    by_cases h : i = x
    · subst h; rw [if_pos rfl]; exact ⟨by omega, by omega, this.2.2⟩
    · rw [if_neg h]
      by_cases h' : i = y
      · subst h'; rw [if_pos rfl]; exact ⟨by omega, by omega, this.2.2⟩
      · rw [if_neg h']; exact this
  · show 0 ≤ (if i = x then A.2.1 x (k + w) else if i = y ∧ A.1.1 y ≤ k then A.2.1 x (k - A.1.1 y) else A.2.1 i k) ∧ (if i = x then A.2.1 x (k + w) else if i = y ∧ A.1.1 y ≤ k then A.2.1 x (k - A.1.1 y) else A.2.1 i k) ≤ 6
    have k1 : k < if i = x then A.1.1 i - w else if i = y then A.1.1 i + w else A.1.1 i := k1
    by_cases h : i = x
    · subst h
      rw [if_pos rfl] at k1 ⊢
      exact r i _ i0 i1 (by omega) (by omega)
    · rw [if_neg h] at k1 ⊢
      by_cases h' : i = y
      · subst h'
        rw [if_pos rfl] at k1
        by_cases h2 : A.1.1 i ≤ k
        · rw [if_pos ⟨rfl, h2⟩]; exact r x _ hx.1 hx.2 (by omega) (by omega)
        · rw [if_neg (fun z => h2 z.2)]; exact r i k i0 i1 k0 (by omega)
      · rw [if_neg h'] at k1
        rw [if_neg (fun z => h' z.1)]; exact r i k i0 i1 k0 k1
  · have := b q q0 q1
    show 0 ≤ (if q = 6 * T.2.1 x + T.2.1 y then max 0 (A.2.2.1 q - w) else A.2.2.1 q) ∧ (if q = 6 * T.2.1 x + T.2.1 y then max 0 (A.2.2.1 q - w) else A.2.2.1 q) ≤ 999
    split <;> omega
  · have := d q q0 q1
    show (if 7 * q = 6 * T.2.1 x + T.2.1 y then max 0 (A.2.2.1 (7 * q) - w) else A.2.2.1 (7 * q)) = 0
    split <;> omega
theorem sp_makePouring {b s B : Int} {m : qm} {n : Nat} {T : a_T} {A : a_W} (hs : q_st s) (h1 : m 1 3 = n) (h3 : f_en n (m 3) T.2.1) (h : c_W m s n A) (t : a_TV n T) (v : a_V B n T.1 A) {x y w : Int} (hx : 0 ≤ x ∧ x < n) (hy : 0 ≤ y ∧ y < n) (hne : x ≠ y) (g1 : 1 ≤ w) (g2 : w ≤ A.1.1 x) (g3 : w ≤ T.1 y - A.1.1 y) :
    q_Ev yX11_makePouring cX11_makePouring 6 none 3 0 0 [(2, 0), (2, s), (0, x), (0, y), (0, w)] (q_sh0, q_rb b, m) (qK (q_rb b) (fun _ m' => c_W m' s n (a_pour T A x y w) ∧ q_fx (fun c i => c = s + 1 ∨ c = s + 2 ∨ c = s + 3 ∨ c = s + 7) m m')) := by
  have hg := qst_gap hs
  have h9 := t.1
  have tx := t.2 x hx.1 hx.2
  have ty := t.2 y hy.1 hy.2
  have vx := v.1 x hx.1 hx.2
  have vy := v.1 y hy.1 hy.2
  refine q_enter (by decide +kernel) (by simp) (Nat.le_of_ble_eq_true rfl) ?_
  refine bkX11_makePouring_0 hs ?_
  refine q_for (A := fun i m' => q_At yX11_makePouring cX11_makePouring 6 none 3 0 0 _ 3 [(2, 0), (2, s), (0, x), (0, y), (0, w), (0, i)] [] (q_sh0, q_rb b, m')) (fun i m' => 0 ≤ i ∧ i ≤ w ∧ w_j m' s x (A.1.1 x - i) (fun k => A.2.1 x (k + i)) ∧ w_j m' s y (A.1.1 y + i) (fun k => if A.1.1 y ≤ k then A.2.1 x (k - A.1.1 y) else A.2.1 y k) ∧ q_fx (fun c i => w_x s x c i ∨ w_x s y c i) m m') w ?_ ?_ 0 m ⟨by omega, by omega, ?_, ?_, q_fx.rf⟩
  · rintro i m' hi ⟨i0, i1, a1, a2, f⟩
    have : i = w := by omega
    subst this
    have e3 : ∀ j, m' 3 j = m 3 j := fun j => f _ _ (by unfold w_x; omega)
    have e7 : ∀ j, m' (s + 7) j = m (s + 7) j := fun j => f _ _ (by unfold w_x; omega)
    have eix : m' 3 x * 6 + m' 3 y = 6 * T.2.1 x + T.2.1 y := by rw [e3, e3, h3 x hx.1 hx.2, h3 y hy.1 hy.2]; omega
    have hd := v.2.2.1 (6 * T.2.1 x + T.2.1 y) (by omega) (by omega)
    have ed := h.2.1 (6 * T.2.1 x + T.2.1 y) (by omega) (by omega)
    refine bkX11_makePouring_3 (P2 := fun _ _ => True) (P3 := fun _ _ _ _ => True) hs (fun _ => ?_) (fun _ => ?_) (fun z => absurd z (by omega)) (fun z => absurd z (by omega)) (fun z => absurd z (by omega)) (fun z => absurd z (by omega))
    · rw [eix, e7, ed]
      have e1 : m' 3 x = T.2.1 x := (e3 x).trans (h3 x hx.1 hx.2)
      exact ⟨by omega, by rw [e1]; exact q_in_of (by omega) (by omega), by omega, q_in_of (by omega) (by omega), by omega, q_in_of (by omega) (by omega)⟩
    · rw [eix, e7, ed]
      have g : q_fx (fun c _ => c = s + 7) m' (q_up m' (s + 7) (6 * T.2.1 x + T.2.1 y) (max 0 (A.2.2.1 (6 * T.2.1 x + T.2.1 y) - i))) := q_fx.rf.up rfl
      have F : q_fx (fun c i => c = s + 1 ∨ c = s + 2 ∨ c = s + 3 ∨ c = s + 7) m _ := (f.mono (fun c i z => by unfold w_x at z; omega)).tr (g.mono (fun c i z => by omega))
      refine ⟨⟨fun j j0 j1 => ⟨?_, (F _ _ (by omega)).trans (h.1 j j0 j1).2⟩, fun d d0 d1 => ?_, (F _ _ (by omega)).trans h.2.2.1, fun o o0 o1 => by rw [F _ _ (by omega)]; exact h.2.2.2.1 o o0 o1, ?_, (F _ _ (by omega)).trans h.2.2.2.2.2⟩, F⟩
      · show w_j _ s j (if j = x then A.1.1 j - i else if j = y then A.1.1 j + i else A.1.1 j) (fun k => if j = x then A.2.1 x (k + i) else if j = y ∧ A.1.1 y ≤ k then A.2.1 x (k - A.1.1 y) else A.2.1 j k)
        by_cases hj : j = x
        · subst hj
          rw [if_pos rfl]
          exact (a1.fo g (by omega)).en (fun k k0 k1 => by rw [if_pos rfl])
        · rw [if_neg hj]
          by_cases hj' : j = y
          · subst hj'
            rw [if_pos rfl]
            refine (a2.fo g (by omega)).en (fun k k0 k1 => ?_)
            rw [if_neg hj]
            by_cases hk : A.1.1 j ≤ k
            · rw [if_pos hk, if_pos ⟨rfl, hk⟩]
            · rw [if_neg hk, if_neg (fun z => hk z.2)]
          · rw [if_neg hj']
            refine (((h.1 j j0 j1).1.fr (f _ _ (by unfold w_x; omega)) (f _ _ (by unfold w_x; omega)) (fun i' _ _ => f _ _ (by unfold w_x; omega))).fo g (by omega)).en (fun k k0 k1 => ?_)
            rw [if_neg hj, if_neg (fun z => hj' z.1)]
      · show _ = if d = 6 * T.2.1 x + T.2.1 y then max 0 (A.2.2.1 d - i) else A.2.2.1 d
        by_cases hd : d = 6 * T.2.1 x + T.2.1 y
        · rw [if_pos hd, hd, q_up_s]
        · rw [if_neg hd, q_up_i hd, e7]; exact h.2.1 d d0 d1
      · rw [F _ _ (by omega), F _ _ (by omega), F _ _ (by omega), F _ _ (by omega), F _ _ (by omega), F _ _ (by omega), F _ _ (by omega)]; exact h.2.2.2.2.1
  · rintro i m' hi ⟨i0, i1, a1, a2, f⟩ ih
    refine bkX11_makePouring_3 hs (fun z => absurd z (by omega)) (fun z => absurd z (by omega)) (fun _ => sp_takeOldest hs (by omega) a1 (by omega)) (P3 := fun r2 m2 _ m3 => w_j m3 s y (A.1.1 y + i + 1) (fun k => if k = A.1.1 y + i then r2 else if A.1.1 y ≤ k then A.2.1 x (k - A.1.1 y) else A.2.1 y k) ∧ q_fx (w_x s y) m2 m3) ?_ (fun _ _ _ _ _ _ _ _ _ => q_in_of (by omega) (by omega)) ?_
    · rintro _ r2 m2 ⟨-, t2, t3⟩ _
      exact sp_putBehind hs (by omega) (a2.fx t3 (fun z => hne z.symm)) (by omega)
    · rintro _ r2 m2 ⟨rfl, t2, t3⟩ _ r3 m3 ⟨s1, s2⟩ _
      refine ih _ ⟨by omega, by omega, ?_, ?_, (f.tr (t3.mono (fun c i z => Or.inl z))).tr (s2.mono (fun c i z => Or.inr z))⟩
      · rw [show A.1.1 x - (i + 1) = A.1.1 x - i - 1 by omega]
        refine (t2.fx s2 hne).en (fun k k0 k1 => ?_)
        exact congrArg (A.2.1 x) (by omega)
      · rw [show A.1.1 y + (i + 1) = A.1.1 y + i + 1 by omega]
        refine s1.en (fun k k0 k1 => ?_)
        by_cases hk : k = A.1.1 y + i
        · rw [if_pos hk, if_pos (by omega)]; exact congrArg (A.2.1 x) (by omega)
        · rw [if_neg hk]
  · rw [Int.sub_zero]
    exact (h.1 x hx.1 hx.2).1.en (fun k k0 k1 => by rw [Int.add_zero])
  · rw [Int.add_zero]
    exact (h.1 y hy.1 hy.2).1.en (fun k k0 k1 => by rw [if_neg (by omega)])
theorem sp_make {b B : Int} {m : qm} {n : Nat} {T : a_T} {A : a_W} (cT : r_T m n T) (h : r_W m n A) (t : a_TV n T) (v : a_V B n T.1 A) {x y w : Int} (hx : 0 ≤ x ∧ x < n) (hy : 0 ≤ y ∧ y < n) (hne : x ≠ y) (g1 : 1 ≤ w) (g2 : w ≤ A.1.1 x) (g3 : w ≤ T.1 y - A.1.1 y) :
    q_Ev yX12_make cX12_make 6 none 3 0 0 [(2, 188), (0, x), (0, y), (0, w)] (q_sh0, q_rb b, m) (qK (q_rb b) (fun _ m' => r_W m' n (a_pour T A x y w) ∧ q_fx (fun c i => c = 190 ∨ c = 196 ∨ c = 197) m m')) := by
  have h9 := t.1
  have tx := t.2 x hx.1 hx.2
  have ty := t.2 y hy.1 hy.2
  have vx := v.1 x hx.1 hx.2
  have vy := v.1 y hy.1 hy.2
  obtain ⟨e1, e2, e3, e4, e5⟩ := h
  have wm : ∀ j : Int, 0 ≤ j → j < n → w_m m j (A.1.1 j) (A.2.1 j) := fun j a b => ⟨(e1.1 j a b).1, fun k k0 k1 => e2 j k a b k0 (by rw [(e1.1 j a b).1]; exact k1)⟩
  refine q_enter (by decide +kernel) (by simp) (Nat.le_of_ble_eq_true rfl) ?_
  refine bkX12_make_0 (P1 := fun _ m1 => w_m m1 x (A.1.1 x - w) (fun k => A.2.1 x (k + w)) ∧ w_m m1 y (A.1.1 y + w) (fun k => if A.1.1 y ≤ k then A.2.1 x (k - A.1.1 y) else A.2.1 y k) ∧ q_fx (fun c i => w_y x c i ∨ w_y y c i) m m1) ?_ ?_ ?_
  · refine q_enter (by decide +kernel) (by simp) (Nat.le_of_ble_eq_true rfl) ?_
    refine bkX12_move_0 ?_
    have wx := wm x hx.1 hx.2
    have wy := wm y hy.1 hy.2
    refine q_for (A := fun i m' => q_At yX12_move cX12_move 5 none 2 0 0 _ 3 [(2, 188), (0, x), (0, y), (0, w), (0, i)] [] (q_sh0, q_rb b, m')) (fun i m' => 0 ≤ i ∧ i ≤ w ∧ (∀ k, 0 ≤ k → k < A.1.1 y + i → m' 196 (60 * y + k) = if A.1.1 y ≤ k then A.2.1 x (k - A.1.1 y) else A.2.1 y k) ∧ q_fx (fun c i => c = 196 ∧ 60 * y ≤ i ∧ i < 60 * y + 60) m m') w ?_ ?_ 0 m ⟨by omega, by omega, fun k k0 k1 => by rw [if_neg (by omega)]; exact wy.2 k k0 (by omega), q_fx.rf⟩
    · rintro i m' hi ⟨i0, i1, a1, f⟩
      have : i = w := by omega
      subst this
      have ey : m' 190 y = A.1.1 y := (f _ _ (by omega)).trans wy.1
      have g : q_fx (fun c j => c = 190 ∧ j = y) m' (q_up m' 190 y (m' 190 y + i)) := q_fx.rf.up ⟨rfl, rfl⟩
      have wx2 : w_m (q_up m' 190 y (m' 190 y + i)) x (A.1.1 x) (A.2.1 x) := wx.fr (by omega) ((g _ _ (by omega)).trans (f _ _ (by omega))) (fun j _ _ => (g _ _ (by omega)).trans (f _ _ (by omega)))
      refine bkX12_move_3 (fun _ => ⟨by omega, q_in_of (by omega) (by omega)⟩) (fun _ => sp_letGoM (by omega) wx2 (by omega) (by omega)) (fun _ r2 m2 h2 _ => ?_) (fun z => absurd z (by omega)) (fun z => absurd z (by omega))
      obtain ⟨b1, f2⟩ := h2
      refine ⟨b1, ⟨?_, fun k k0 k1 => ?_⟩, ((f.mono (fun c i z => Or.inr (Or.inl z))).tr (g.mono (fun c i z => Or.inr (Or.inr z)))).tr (f2.mono (fun c i z => Or.inl z))⟩
      · rw [f2 _ _ (by unfold w_y; omega), q_up_s, ey]
      · rw [f2 _ _ (by unfold w_y; omega), g _ _ (by omega)]; exact a1 k k0 k1
    · rintro i m' hi ⟨i0, i1, a1, f⟩ ih
      have ey : m' 190 y = A.1.1 y := (f _ _ (by omega)).trans wy.1
      refine bkX12_move_3 (P2 := fun _ _ => True) (fun z => absurd z (by omega)) (fun z => absurd z (by omega)) (fun z => absurd z (by omega)) (fun _ => ?_) (fun _ => ?_)
      · rw [ey]; exact ⟨q_in_of (by omega) (by omega), by omega, q_in_of (by omega) (by omega), q_in_of (by omega) (by omega), q_in_of (by omega) (by omega), q_in_of (by omega) (by omega), by omega, by omega, q_in_of (by omega) (by omega)⟩
      · rw [ey, f _ _ (by omega), wx.2 i i0 (by omega)]
        refine ih _ ⟨by omega, by omega, fun k k0 k1 => ?_, f.up ⟨rfl, by omega, by omega⟩⟩
        by_cases hk : k = A.1.1 y + i
        · rw [show 60 * y + k = 60 * y + A.1.1 y + i by omega, q_up_s, if_pos (by omega)]; exact congrArg (A.2.1 x) (by omega)
        · rw [q_up_i (by omega)]; exact a1 k k0 (by omega)
  · rintro r m1 ⟨a1, a2, f⟩ _
    have e0 : ∀ j : Int, 0 ≤ j → j < n → m1 192 j = T.2.1 j := fun j a b => (f _ _ (by unfold w_y; omega)).trans (cT.2.2.1 j a b)
    have hd := v.2.2.1 (6 * T.2.1 x + T.2.1 y) (by omega) (by omega)
    have ed : m1 197 (6 * T.2.1 x + T.2.1 y) = A.2.2.1 (6 * T.2.1 x + T.2.1 y) := (f _ _ (by unfold w_y; omega)).trans (e3 _ (by omega) (by omega))
    rw [e0 x hx.1 hx.2, e0 y hy.1 hy.2, ed]
    exact ⟨by omega, by omega, q_in_of (by omega) (by omega), q_in_of (by omega) (by omega), by omega, q_in_of (by omega) (by omega)⟩
  · rintro r m1 ⟨a1, a2, f⟩ _
    have e0 : ∀ j : Int, 0 ≤ j → j < n → m1 192 j = T.2.1 j := fun j a b => (f _ _ (by unfold w_y; omega)).trans (cT.2.2.1 j a b)
    have ed : m1 197 (6 * T.2.1 x + T.2.1 y) = A.2.2.1 (6 * T.2.1 x + T.2.1 y) := (f _ _ (by unfold w_y; omega)).trans (e3 _ (by omega) (by omega))
    rw [e0 x hx.1 hx.2, e0 y hy.1 hy.2, ed]
    have g : q_fx (fun c _ => c = 197) m1 (q_up m1 197 (6 * T.2.1 x + T.2.1 y) (max 0 (A.2.2.1 (6 * T.2.1 x + T.2.1 y) - w))) := q_fx.rf.up rfl
    have F : q_fx (fun c i => c = 190 ∨ c = 196 ∨ c = 197) m _ := (f.mono (fun c i z => by unfold w_y at z; omega)).tr (g.mono (fun c i z => by omega))
    have W : ∀ j : Int, 0 ≤ j → j < n → w_m (q_up m1 197 (6 * T.2.1 x + T.2.1 y) (max 0 (A.2.2.1 (6 * T.2.1 x + T.2.1 y) - w))) j ((a_pour T A x y w).1.1 j) ((a_pour T A x y w).2.1 j) := by
      intro j j0 j1
      show w_m _ j (if j = x then A.1.1 j - w else if j = y then A.1.1 j + w else A.1.1 j) (fun k => if j = x then A.2.1 x (k + w) else if j = y ∧ A.1.1 y ≤ k then A.2.1 x (k - A.1.1 y) else A.2.1 j k)
      by_cases hj : j = x
      · subst hj
        rw [if_pos rfl]
        exact (a1.fo g (by omega)).en (fun k k0 k1 => by rw [if_pos rfl])
      · rw [if_neg hj]
        by_cases hj' : j = y
        · subst hj'
          rw [if_pos rfl]
          refine (a2.fo g (by omega)).en (fun k k0 k1 => ?_)
          rw [if_neg hj]
          by_cases hk : A.1.1 j ≤ k
          · rw [if_pos hk, if_pos ⟨rfl, hk⟩]
          · rw [if_neg hk, if_neg (fun z => hk z.2)]
        · rw [if_neg hj']
          have vj := v.1 j j0 j1
          have tj := t.2 j j0 j1
          refine (((wm j j0 j1).fr (by omega) (f _ _ (by unfold w_y; omega)) (fun i' _ _ => f _ _ (by unfold w_y; omega))).fo g (by omega)).en (fun k k0 k1 => ?_)
          rw [if_neg hj, if_neg (fun z => hj' z.1)]
    refine ⟨⟨⟨fun j a b => ⟨(W j a b).1, (F _ _ (by omega)).trans (e1.1 j a b).2⟩, (F _ _ (by omega)).trans e1.2⟩, fun j k a b c d => (W j a b).2 k c (by rw [← (W j a b).1]; exact d), fun d d0 d1 => ?_, (F _ _ (by omega)).trans e4, (F _ _ (by omega)).trans e5⟩, F⟩
    show q_up m1 197 _ _ 197 d = if d = 6 * T.2.1 x + T.2.1 y then max 0 (A.2.2.1 d - w) else A.2.2.1 d
    by_cases hd : d = 6 * T.2.1 x + T.2.1 y
    · rw [if_pos hd, hd, q_up_s]
    · rw [if_neg hd, q_up_i hd, f _ _ (by unfold w_y; omega)]; exact e3 d d0 d1
theorem sp_canPour {b s : Int} {m : qm} {n : Nat} {T : a_T} {A : a_W} {B : Int} (hs : q_st s) (h1 : m 1 3 = n) (h2 : f_en n (m 2) T.1) (hl : f_en n (m (s + 3)) A.1.1) (t : a_TV n T) (v : a_V B n T.1 A) {x y w : Int} : q_Ev yX11_canPour cX11_canPour 5 (some .int) 2 0 0 [(2, 0), (2, s), (0, x), (0, y), (0, w)] (q_sh0, q_rb b, m) (qK (q_rb b) (fun r m' => m' = m ∧ r = a_can n T A x y w)) := by
  have h9 := t.1
  refine q_enter (by decide +kernel) (by simp) (Nat.le_of_ble_eq_true rfl) ?_
  unfold a_can
  refine bkX11_canPour_0 hs (fun _ _ z => ⟨rfl, by rw [if_neg (by omega)]⟩) (fun _ _ _ _ => by omega) (fun p q _ _ _ => ?_) (fun p q z1 z2 z3 z4 => ⟨rfl, ?_⟩) (fun p q z1 z2 z3 z4 => ⟨rfl, ?_⟩) (fun p q z1 z2 z3 => ⟨rfl, ?_⟩) (fun _ _ _ z => ⟨rfl, by rw [if_neg (by omega)]⟩) (fun _ z => ⟨rfl, by rw [if_neg (by omega)]⟩) (fun z => ⟨rfl, by rw [if_neg (by omega)]⟩)
  · rw [h2 y (by omega) (by omega), hl y (by omega) (by omega)]
    have := a_lv t v (j := y) (by omega) (by omega)
    exact ⟨by omega, q_in_of (by omega) (by omega)⟩
  · rw [hl x (by omega) (by omega)] at z3
    rw [h2 y (by omega) (by omega), hl y (by omega) (by omega)] at z4
    rw [if_pos (by omega), if_neg (by omega), if_neg (by omega)]
  · rw [hl x (by omega) (by omega)] at z3
    rw [h2 y (by omega) (by omega), hl y (by omega) (by omega)] at z4
    rw [if_pos (by omega), if_neg (by omega), if_pos (by omega)]
  · rw [hl x (by omega) (by omega)] at z3
    rw [if_pos (by omega), if_pos (by omega)]
theorem sp_refusal {b : Int} {m : qm} {n : Nat} {T : a_T} {A : a_W} {B : Int} (h1 : m 188 0 = n) (h2 : f_en n (m 189) T.1) (hl : f_en n (m 190) A.1.1) (t : a_TV n T) (v : a_V B n T.1 A) {x y w : Int} : q_Ev yX12_refusal cX12_refusal 4 (some .int) 3 0 0 [(2, 188), (0, x), (0, y), (0, w)] (q_sh0, q_rb b, m) (qK (q_rb b) (fun r m' => m' = m ∧ r = if 0 < a_can n T A x y w then 0 else a_can n T A x y w)) := by
  have h9 := t.1
  refine q_enter (by decide +kernel) (by simp) (Nat.le_of_ble_eq_true rfl) ?_
  have no : ∀ c : Int, c < 0 → a_can n T A x y w = c → c = if 0 < a_can n T A x y w then 0 else a_can n T A x y w := fun c hc e => by rw [e, if_neg (by omega)]
  refine bkX12_refusal_0 (q_in_of (by omega) (by omega)) (fun _ _ z => ⟨rfl, no _ (by decide) (by unfold a_can; rw [if_neg (by omega)])⟩) (fun _ _ _ _ => by omega) (fun p q _ _ _ => ?_) (fun p q z1 z2 z3 z4 => ⟨rfl, ?_⟩) (fun p q z1 z2 z3 z4 => ⟨rfl, no _ (by decide) ?_⟩) (fun p q z1 z2 z3 => ⟨rfl, no _ (by decide) ?_⟩) (fun _ _ _ z => ⟨rfl, no _ (by decide) (by unfold a_can; rw [if_neg (by omega)])⟩) (fun _ z => ⟨rfl, no _ (by decide) (by unfold a_can; rw [if_neg (by omega)])⟩) (fun z => ⟨rfl, no _ (by decide) (by unfold a_can; rw [if_neg (by omega)])⟩)
  · rw [h2 y (by omega) (by omega), hl y (by omega) (by omega)]
    have := a_lv t v (j := y) (by omega) (by omega)
    exact ⟨by omega, q_in_of (by omega) (by omega)⟩
  · rw [hl x (by omega) (by omega)] at z3
    rw [h2 y (by omega) (by omega), hl y (by omega) (by omega)] at z4
    have e : a_can n T A x y w = w := by unfold a_can; rw [if_pos (by omega), if_neg (by omega), if_neg (by omega)]
    rw [e, if_pos (by omega)]
  · unfold a_can
    rw [hl x (by omega) (by omega)] at z3
    rw [h2 y (by omega) (by omega), hl y (by omega) (by omega)] at z4
    rw [if_pos (by omega), if_neg (by omega), if_pos (by omega)]
  · unfold a_can
    rw [hl x (by omega) (by omega)] at z3
    rw [if_pos (by omega), if_pos (by omega)]
/-! pour, on both sides -/
abbrev x_pC (c i : Int) : Prop := c = 6 ∨ c = 7 ∨ c = 8 ∨ c = 12 ∨ x_Cr c i
abbrev x_pM (c i : Int) : Prop := c = 190 ∨ c = 196 ∨ c = 197 ∨ x_Mr c i ∨ (c = 188 ∧ i = 17)
def a_pourA (n : Nat) (T : a_T) (A : a_W) (x y w : Int) : a_W := if 0 < a_can n T A x y w then a_pour T A x y w else A
def a_pourP (n : Nat) (T : a_T) (A : a_W) (P : a_P) (x y w : Int) : a_P := if 0 < a_can n T A x y w then a_rem A P else P
theorem cl_pour {b B : Int} {m : qm} {n : Nat} {T : a_T} {A : a_W} {P : a_P} (cT : c_T m n T) (cW : c_W m 5 n A) (cP : c_P m n P) (t : a_TV n T) (v : a_V B n T.1 A) (pv : a_PV B n T.1 P) (x y w : Int) :
    q_Ev yX11_pour cX11_pour 5 (some .int) 4 0 0 [(2, 0), (0, x), (0, y), (0, w)] (q_sh0, q_rb b, m) (qK (q_rb b) (fun r m1 => r = a_can n T A x y w ∧ c_W m1 5 n (a_pourA n T A x y w) ∧ c_P m1 n (a_pourP n T A P x y w) ∧ q_fx x_pC m m1)) := by
  have h9 := t.1
  have hc6 : ∀ j : Int, 0 ≤ j → j < n → T.1 j ≤ 60 := fun j a b => (t.2 j a b).2.1
  refine q_enter (by decide +kernel) (by simp) (Nat.le_of_ble_eq_true rfl) ?_
  refine bkX11_pour_0 (sp_canPour q_st5 cT.1 cT.2.1 cW.lv t v) ?_ (P3 := fun _ _ _ m3 => u_C m m3 ∧ q_fx x_Cr m m3) ?_ (P4 := fun _ _ _ m3 _ m4 => c_W m4 5 n (a_pour T A x y w) ∧ q_fx (fun c i => c = 5 + 1 ∨ c = 5 + 2 ∨ c = 5 + 3 ∨ c = 5 + 7) m3 m4) ?_ ?_
  · rintro r1 m1 ⟨rfl, rfl⟩ _ z
    unfold a_pourA a_pourP
    rw [if_neg (by omega), if_neg (by omega)]
    exact ⟨rfl, cW, cP, q_fx.rf⟩
  · rintro r1 m1 ⟨rfl, rfl⟩ _ z
    exact sp_rememberC ⟨cP.2.2.2.1, cP.2.2.2.2.1⟩ (by rw [cP.1]; exact ⟨cP.2.1, cP.2.2.1⟩) cW.b9
  · rintro r1 m1 ⟨rfl, rfl⟩ _ z r3 m3 ⟨u3, f3⟩ _
    obtain ⟨a1, a2, a3, a4, a5, a6, a7⟩ := a_can_ok z
    exact sp_makePouring q_st5 ((f3 _ _ (by unfold x_Cr; omega)).trans cT.1) (fun j a b => (f3 _ _ (by unfold x_Cr; omega)).trans (cT.2.2.1 j a b)) (cW.fr f3 (by unfold w_z x_Cr; omega)) t v a1 a2 a3 a4 a5 a6
  · rintro r1 m1 ⟨rfl, rfl⟩ _ z r3 m3 ⟨u3, f3⟩ _ r4 m4 ⟨w4, f4⟩ _
    unfold a_pourA a_pourP
    rw [if_pos z, if_pos z]
    exact ⟨rfl, w4, (cP.rem h9 hc6 cW v pv u3).fr f4 (by unfold x_Cr; omega), (f3.mono (fun c i z => by unfold x_pC; exact Or.inr (Or.inr (Or.inr (Or.inr z))))).tr (f4.mono (fun c i z => by unfold x_pC; omega))⟩
theorem rf_pour {b B : Int} {m : qm} {n : Nat} {T : a_T} {A : a_W} {P : a_P} (cT : r_T m n T) (cW : r_W m n A) (cP : r_P m n P) (t : a_TV n T) (v : a_V B n T.1 A) (pv : a_PV B n T.1 P) (x y w : Int) :
    q_Ev yX12_pour cX12_pour 5 (some .int) 4 0 0 [(2, 188), (0, x), (0, y), (0, w)] (q_sh0, q_rb b, m) (qK (q_rb b) (fun r m1 => r = a_can n T A x y w ∧ r_W m1 n (a_pourA n T A x y w) ∧ r_P m1 n (a_pourP n T A P x y w) ∧ q_fx x_pM m m1)) := by
  have h9 := t.1
  have hc6 : ∀ j : Int, 0 ≤ j → j < n → T.1 j ≤ 60 := fun j a b => (t.2 j a b).2.1
  have g0 : q_fx (fun c i => c = 188 ∧ i = 17) m (q_up m 188 17 0) := q_fx.rf.up ⟨rfl, rfl⟩
  have t0 := cT.fr g0 (by omega)
  have w0 := cW.fr g0 (by omega)
  have p0 := cP.fr g0 (by unfold x_Mr; omega)
  have f0 : q_fx x_pM m (q_up m 188 17 0) := g0.mono (fun c i z => by unfold x_pM; omega)
  have neg : ¬ 0 < a_can n T A x y w → a_can n T A x y w < 0 := fun z => by
    unfold a_can at z ⊢
    split
    · rename_i y1
      rw [if_pos y1] at z
      split
      · decide
      · rename_i y2
        rw [if_neg y2] at z
        split
        · decide
        · rename_i y3
          rw [if_neg y3] at z
          omega
    · decide
  refine q_enter (by decide +kernel) (by simp) (Nat.le_of_ble_eq_true rfl) ?_
  refine bkX12_pour_0 (sp_refusal t0.1 t0.2.1 w0.lv t v) (P3 := fun _ m1 _ m3 => u_M m1 m3 ∧ q_fx x_Mr m1 m3) ?_ (P4 := fun _ _ _ m3 _ m4 => r_W m4 n (a_pour T A x y w) ∧ q_fx (fun c i => c = 190 ∨ c = 196 ∨ c = 197) m3 m4) ?_ ?_ ?_
  · rintro r1 m1 ⟨rfl, rfl⟩ _ z
    exact sp_rememberM (by rw [p0.1]; exact ⟨p0.2.1, p0.2.2.1⟩)
  · rintro r1 m1 ⟨rfl, rfl⟩ _ z r3 m3 ⟨u3, f3⟩ _
    have z2 : 0 < a_can n T A x y w := Classical.byContradiction fun y => by rw [if_neg y] at z; have := neg y; omega
    obtain ⟨a1, a2, a3, a4, a5, a6, a7⟩ := a_can_ok z2
    exact sp_make (t0.fr f3 (by unfold x_Mr; omega)) (w0.fr f3 (by unfold x_Mr; omega)) t v a1 a2 a3 a4 a5 a6
  · rintro r1 m1 ⟨rfl, rfl⟩ _ z r3 m3 ⟨u3, f3⟩ _ r4 m4 ⟨w4, f4⟩ _
    have z2 : 0 < a_can n T A x y w := Classical.byContradiction fun y => by rw [if_neg y] at z; have := neg y; omega
    obtain ⟨a1, a2, a3, a4, a5, a6, a7⟩ := a_can_ok z2
    unfold a_pourA a_pourP
    rw [if_pos z2, if_pos z2]
    exact ⟨a7.symm, w4, (p0.rem h9 hc6 w0 v pv u3).fr f4 (by unfold x_Mr; omega), f0.tr ((f3.mono (fun c i z => by unfold x_pM; exact Or.inr (Or.inr (Or.inr (Or.inl z))))).tr (f4.mono (fun c i z => by unfold x_pM; omega)))⟩
  · rintro r1 m1 ⟨rfl, rfl⟩ _ z
    have z2 : ¬ 0 < a_can n T A x y w := fun y => by rw [if_pos y] at z; omega
    unfold a_pourA a_pourP
    rw [if_neg z2, if_neg z2, if_neg z2]
    exact ⟨rfl, w0, p0, f0⟩
theorem op_pour {LW : qm → Prop} (hL : i_Lf LW) {k : Nat} {b : Int} {m : qm} (I : i_I LW k m) (x' y w : Int) :
    q_Ev yX11_pour cX11_pour 5 (some .int) 4 0 0 [(2, 0), (0, x'), (0, y), (0, w)] (q_sh0, q_rb b, m) (qK (q_rb b) (fun r m1 => q_Ev yX12_pour cX12_pour 5 (some .int) 4 0 0 [(2, 188), (0, x'), (0, y), (0, w)] (q_sh0, q_rb b, m1) (i_O LW (k + 1) r))) := by
  obtain ⟨n, t, p, a, x, r, s, u, kk, l⟩ := I
  obtain ⟨T1, T2, T3⟩ := a_T_of t p
  obtain ⟨W1, W2, W3⟩ := a_N_of a
  obtain ⟨P1, P2, P3⟩ := a_U_of u
  refine (cl_pour T1 W1 P1 T3 W3 P3 x' y w).post ?_
  rintro r1 m1 ⟨rfl, c1, c2, c4⟩
  refine i_O_of (b := b) ((rf_pour (T2.fr c4 (by unfold x_pC x_Cr; omega)) (W2.fr c4 (by unfold x_pC x_Cr; omega)) (P2.fr c4 (by unfold x_Mr x_pC x_Cr; omega)) T3 W3 P3 x' y w).post ?_)
  rintro r2 m2 ⟨rfl, d1, d2, d4⟩
  refine ⟨rfl, i_I.wat hL t p x s kk l c4 d4 (by intro c i; unfold x_B x_T x_P x_X x_S x_K x_L x_pC x_Cr; omega) (by intro c i; unfold x_B x_T x_P x_X x_S x_K x_L x_pM x_Mr; omega) (by intro c i; unfold x_pM x_Mr; omega) c1 d1 ?_ c2 d2 ?_ ((r.fr c4 (by intro c i; unfold x_R x_pC x_Cr; omega)).fr d4 (by intro c i; unfold x_R x_pM x_Mr; omega))⟩
  · refine a_V.mo (B := 1500 * k) ?_ (by omega)
    unfold a_pourA
    split
    · rename_i z
      obtain ⟨a1, a2, a3, a4, a5, a6, a7⟩ := a_can_ok z
      exact a_V.pour (T := a_Tof m) T3 W3 a1 a2 a3 a4 a5 a6
    · exact W3
  · refine a_PV.mo (B := 1500 * k) ?_ (by omega)
    unfold a_pourP
    split
    · exact a_PV.rem ⟨P1.2.1, P1.2.2.1⟩ W3 P3
    · exact P3
