/-! ===== quiet, what is conserved, and that all comes to rest ===== -/
def a_mov (n : Nat) (h l : Int → Int) : Prop := ∃ j : Int, 0 ≤ j ∧ j < n ∧ 0 < h j ∧ 0 < l j
theorem f_o_quiet {n : Nat} {u c h w l : Int → Int} (ok : f_ok n u c h w l) (q : ¬ a_mov n h l) : ∀ j : Int, 0 ≤ j → j < n → f_o w h l j = 0 := by
  intro j a b
  have z := ok.2 j a b
  have : ¬ (0 < h j ∧ 0 < l j) := fun y => q ⟨j, a, b, y.1, y.2⟩
  unfold f_o
  split <;> omega
theorem b_f_0 {n : Nat} {u c h w l : Int → Int} {F : Int → Int → Int} (ok : f_ok n u c h w l) (hz : ∀ j : Int, 0 ≤ j → j < n → f_o w h l j = 0) : ∀ k : Nat, k ≤ n → ∀ j x : Int, 0 ≤ j → j < n → 0 ≤ x → x < l j → b_f u c (f_o w h l) l F k j x = F j x
  | 0, _ => by
    intro j x j0 j1 x0 x1
    simp only [b_f]
    rw [hz j j0 j1, Int.add_zero]
  | k + 1, hk => by
    intro j x j0 j1 x0 x1
    have d := (f_d_0 ok hz k (by omega)).1 j j0 j1
    simp only [b_f]
    rw [if_neg (by rw [d]; omega)]
    exact b_f_0 ok hz k (by omega) j x j0 j1 x0 x1
theorem b_s_0 {n : Nat} {u c h w l : Int → Int} {F : Int → Int → Int} {q : Int} (ok : f_ok n u c h w l) (hz : ∀ j : Int, 0 ≤ j → j < n → f_o w h l j = 0) : ∀ k : Nat, k ≤ n → b_s u c (f_o w h l) l F q k = 0
  | 0, _ => rfl
  | k + 1, hk => by
    have b := b_c_in ok (k := k) (by omega)
    rw [hz k (by omega) (by omega)] at b
    simp only [b_s]
    rw [b_s_0 ok hz k (by omega), hz k (by omega) (by omega), show b_c u c (f_o w h l) l k = 0 by omega]
    rfl
/-- the same drops in the jars, the same lost -/
def a_sm (n : Nat) (A B : a_W) : Prop := (∀ j : Int, 0 ≤ j → j < n → A.1.1 j = B.1.1 j) ∧ A.1.2.2 = B.1.2.2 ∧ ∀ j k : Int, 0 ≤ j → j < n → 0 ≤ k → k < A.1.1 j → A.2.1 j k = B.2.1 j k
theorem a_sm.rf {n : Nat} {A : a_W} : a_sm n A A := ⟨fun _ _ _ => rfl, rfl, fun _ _ _ _ _ _ => rfl⟩
theorem a_sm.tr {n : Nat} {A B C : a_W} (h : a_sm n A B) (g : a_sm n B C) : a_sm n A C := ⟨fun j a b => (h.1 j a b).trans (g.1 j a b), h.2.1.trans g.2.1, fun j k a b c d => (h.2.2 j k a b c d).trans (g.2.2 j k a b c (by rw [← h.1 j a b]; exact d))⟩
theorem a_sm.cnt {n : Nat} {A B : a_W} (h : a_sm n A B) {j v : Int} (a : 0 ≤ j) (b : j < n) (l : 0 ≤ A.1.1 j) : a_cnt A v j = a_cnt B v j := by
  unfold a_cnt
  rw [← h.1 j a b]
  exact g_n_en (fun i i0 i1 => h.2.2 j i a b i0 (by omega))
theorem a_bell_sm {B : Int} {n : Nat} {T : a_T} {A : a_W} (t : a_TV n T) (v : a_V B n T.1 A) (q : ¬ a_mov n T.2.2.2.1 A.1.1) : a_sm n (a_bell n T A) A ∧ ∀ o, b_s T.2.2.2.2 T.1 (f_o A.1.2.1 T.2.2.2.1 A.1.1) A.1.1 A.2.1 o n = 0 := by
  have ok := a_OK t v
  have hz := f_o_quiet ok q
  have d := f_d_0 ok hz n (Nat.le_refl n)
  refine ⟨⟨d.1, ?_, fun j k a b c e => b_f_0 ok hz n (Nat.le_refl n) j k a b c (by rw [← d.1 j a b]; exact e)⟩, fun o => b_s_0 ok hz n (Nat.le_refl n)⟩
  show A.1.2.2 + _ = A.1.2.2
  rw [d.2]; omega
theorem a_mov_sm {n : Nat} {A B : a_W} {h : Int → Int} (s : a_sm n A B) : a_mov n h A.1.1 ↔ a_mov n h B.1.1 := ⟨fun ⟨j, a, b, c, d⟩ => ⟨j, a, b, c, by rw [← s.1 j a b]; exact d⟩, fun ⟨j, a, b, c, d⟩ => ⟨j, a, b, c, by rw [s.1 j a b]; exact d⟩⟩
/-- what of q is lost in v bells -/
def a_Sq (n : Nat) (T : a_T) (A : a_W) (q : Int) : Nat → Int
  | 0 => 0
  | v + 1 => a_Sq n T A q v + b_s T.2.2.2.2 T.1 (f_o (a_bells n T A v).1.2.1 T.2.2.2.1 (a_bells n T A v).1.1) (a_bells n T A v).1.1 (a_bells n T A v).2.1 q n
theorem a_bells_sm {B : Int} {n : Nat} {T : a_T} {A : a_W} (t : a_TV n T) (v : a_V B n T.1 A) {w : Nat} (q : ¬ a_mov n T.2.2.2.1 (a_bells n T A w).1.1) : ∀ x : Nat, a_sm n (a_bells n T A (w + x)) (a_bells n T A w) ∧ ∀ o, a_Sq n T A o (w + x) = a_Sq n T A o w
  | 0 => ⟨a_sm.rf, fun _ => rfl⟩
  | x + 1 => by
    obtain ⟨s, s2⟩ := a_bells_sm t v q x
    have q2 : ¬ a_mov n T.2.2.2.1 (a_bells n T A (w + x)).1.1 := fun y => q ((a_mov_sm s).mp y)
    obtain ⟨b, b2⟩ := a_bell_sm t (v.bells t (w + x)) q2
    refine ⟨b.tr s, fun o => ?_⟩
    have e : a_Sq n T A o (w + (x + 1)) = a_Sq n T A o (w + x) + b_s T.2.2.2.2 T.1 (f_o (a_bells n T A (w + x)).1.2.1 T.2.2.2.1 (a_bells n T A (w + x)).1.1) (a_bells n T A (w + x)).1.1 (a_bells n T A (w + x)).2.1 o n := rfl
    rw [e, b2 o, s2 o, Int.add_zero]
theorem g_s_up {f g : Int → Int} {t : Int} : ∀ {n : Nat}, 0 ≤ t → t < n → (∀ j : Int, 0 ≤ j → j < n → j ≠ t → g j = f j) → g_s g n = g_s f n + (g t - f t)
  | 0, h0, h1, _ => absurd h1 (by omega)
  | n + 1, h0, h1, h => by
    simp only [g_s]
    by_cases e : t = n
    · subst e
      rw [g_s_en (f := g) (g := f) (fun j a b => h j a (by omega) (by omega))]
      omega
    · rw [g_s_up (f := f) (g := g) (n := n) h0 (by omega) (fun j a b c => h j a (by omega) c), h n (by omega) (by omega) (fun z => e z.symm)]
      omega
theorem g_n_add {f : Int → Int} {v : Int} (a : Nat) : ∀ b : Nat, g_n f v (a + b) = g_n f v a + g_n (fun k => f (k + a)) v b
  | 0 => by simp [g_n]
  | b + 1 => by
    show g_n f v (a + b) + (if f ((a + b : Nat) : Int) = v then 1 else 0) = _
    rw [g_n_add a b]
    simp only [g_n]
    rw [show ((a + b : Nat) : Int) = (b : Int) + a by omega]
    omega
theorem g_s_sub {f g : Int → Int} : ∀ n : Nat, g_s (fun j => f j + g j) n = g_s f n + g_s g n
  | 0 => rfl
  | n + 1 => by simp only [g_s]; rw [g_s_sub n]; omega
/-- what jars k to n still have on the way, of q -/
def b_w (F : Int → Int → Int) (o : Int → Int) (q : Int) (n k : Nat) : Int := g_s (fun j => g_n (F j) q (o j).toNat) n - g_s (fun j => g_n (F j) q (o j).toNat) k
theorem b_con {n : Nat} {u c h w l : Int → Int} {F : Int → Int → Int} {q : Int} (ok : f_ok n u c h w l) : ∀ k : Nat, k ≤ n → g_s (fun j => g_n (b_f u c (f_o w h l) l F k j) q ((f_d u c (f_o w h l) l k).1 j).toNat) n + b_s u c (f_o w h l) l F q k + b_w F (f_o w h l) q n k = g_s (fun j => g_n (F j) q (l j).toNat) n
  | 0, _ => by
    have e : g_s (fun j => g_n (F j) q (l j).toNat) n = g_s (fun j => g_n (b_f u c (f_o w h l) l F 0 j) q ((f_d u c (f_o w h l) l 0).1 j).toNat + g_n (F j) q (f_o w h l j).toNat) n := g_s_en (fun j a b => by
      have z := f_o_in ok a b
      have y := ok.2 j a b
      have : (l j).toNat = (f_o w h l j).toNat + (l j - f_o w h l j).toNat := by omega
      rw [this, g_n_add]
      simp only [b_f, f_d]
      rw [show (fun k : Int => F j (k + ((f_o w h l j).toNat : Nat))) = fun x => F j (x + f_o w h l j) from funext fun x => by rw [show (((f_o w h l j).toNat : Nat) : Int) = f_o w h l j by omega]]
      omega)
    rw [e, g_s_sub]
    unfold b_w
    simp only [b_s, g_s]
    omega
  | k + 1, hk => by
    have ih := b_con (q := q) (F := F) ok k (by omega)
    have a := f_o_in ok (j := (k : Int)) (by omega) (by omega)
    have z := ok.2 (k : Int) (by omega) (by omega)
    have bc := b_c_in ok (k := k) (by omega)
    have ew : b_w F (f_o w h l) q n k = b_w F (f_o w h l) q n (k + 1) + g_n (F k) q (f_o w h l k).toNat := by unfold b_w; simp only [g_s]; omega
    have es : b_s u c (f_o w h l) l F q (k + 1) = b_s u c (f_o w h l) l F q k + (g_n (F k) q (f_o w h l k).toNat - g_n (F k) q (b_c u c (f_o w h l) l k).toNat) := rfl
    by_cases hu : u k = -1
    · have ec : b_c u c (f_o w h l) l k = 0 := by unfold b_c; rw [if_pos hu]
      have e : g_s (fun j => g_n (b_f u c (f_o w h l) l F (k + 1) j) q ((f_d u c (f_o w h l) l (k + 1)).1 j).toNat) n = g_s (fun j => g_n (b_f u c (f_o w h l) l F k j) q ((f_d u c (f_o w h l) l k).1 j).toNat) n := g_s_en (fun j a b => by
        have d : (f_d u c (f_o w h l) l (k + 1)).1 j = (f_d u c (f_o w h l) l k).1 j := by simp only [f_d]; rw [if_pos hu]
        rw [d]
        refine g_n_en (fun i i0 i1 => ?_)
        simp only [b_f]
        rw [if_neg (fun y => y.1 hu)])
      rw [e, es, ec]
      simp only [Int.toNat_zero, g_n]
      omega
    · have hu2 : 0 ≤ u k ∧ u k < n := by omega
      have dk := (f_d_in ok k (by omega)).1 (u k) hu2.1 hu2.2
      have ec : b_c u c (f_o w h l) l k = min (f_o w h l k) (c (u k) - (f_d u c (f_o w h l) l k).1 (u k)) := by unfold b_c; rw [if_neg hu]
      have dt : (f_d u c (f_o w h l) l (k + 1)).1 (u k) = (f_d u c (f_o w h l) l k).1 (u k) + b_c u c (f_o w h l) l k := by simp only [f_d]; rw [if_neg hu, ec]; simp only [if_true, ite_true]
      have e := g_s_up (f := fun j => g_n (b_f u c (f_o w h l) l F k j) q ((f_d u c (f_o w h l) l k).1 j).toNat) (g := fun j => g_n (b_f u c (f_o w h l) l F (k + 1) j) q ((f_d u c (f_o w h l) l (k + 1)).1 j).toNat) (t := u k) (n := n) hu2.1 hu2.2 (fun j a b hj => by
        have d : (f_d u c (f_o w h l) l (k + 1)).1 j = (f_d u c (f_o w h l) l k).1 j := by simp only [f_d]; rw [if_neg hu]; simp only; rw [if_neg hj]
        simp only [d]
        refine g_n_en (fun i i0 i1 => ?_)
        simp only [b_f]
        rw [if_neg (fun y => hj y.2.1)])
      have g : g_n (b_f u c (f_o w h l) l F (k + 1) (u k)) q ((f_d u c (f_o w h l) l (k + 1)).1 (u k)).toNat = g_n (b_f u c (f_o w h l) l F k (u k)) q ((f_d u c (f_o w h l) l k).1 (u k)).toNat + g_n (F k) q (b_c u c (f_o w h l) l k).toNat := by
        rw [dt, show ((f_d u c (f_o w h l) l k).1 (u k) + b_c u c (f_o w h l) l k).toNat = ((f_d u c (f_o w h l) l k).1 (u k)).toNat + (b_c u c (f_o w h l) l k).toNat by omega, g_n_add]
        congr 1
        · refine g_n_en (fun i i0 i1 => ?_)
          simp only [b_f]
          rw [if_neg (by omega)]
        · refine g_n_en (fun i i0 i1 => ?_)
          simp only [b_f]
          rw [if_pos ⟨hu, trivial, by omega⟩]
          exact congrArg (F k) (by omega)
      rw [e, es]
      omega
theorem a_con {B : Int} {n : Nat} {T : a_T} {A : a_W} (t : a_TV n T) (v : a_V B n T.1 A) (q : Int) : ∀ w : Nat, g_s (a_cnt (a_bells n T A w) q) n + a_Sq n T A q w = g_s (a_cnt A q) n
  | 0 => by simp only [a_bells, a_Sq]; omega
  | w + 1 => by
    have ih := a_con t v q w
    have c := b_con (q := q) (F := (a_bells n T A w).2.1) (a_OK t (v.bells t w)) n (Nat.le_refl n)
    have z : b_w (a_bells n T A w).2.1 (f_o (a_bells n T A w).1.2.1 T.2.2.2.1 (a_bells n T A w).1.1) q n n = 0 := by unfold b_w; omega
    rw [z] at c
    have e1 : g_s (a_cnt (a_bells n T A w) q) n = g_s (fun j => g_n ((a_bells n T A w).2.1 j) q ((a_bells n T A w).1.1 j).toNat) n := rfl
    have e2 : g_s (a_cnt (a_bells n T A (w + 1)) q) n = g_s (fun j => g_n (b_f T.2.2.2.2 T.1 (f_o (a_bells n T A w).1.2.1 T.2.2.2.1 (a_bells n T A w).1.1) (a_bells n T A w).1.1 (a_bells n T A w).2.1 n j) q ((f_d T.2.2.2.2 T.1 (f_o (a_bells n T A w).1.2.1 T.2.2.2.1 (a_bells n T A w).1.1) (a_bells n T A w).1.1 n).1 j).toNat) n := rfl
    simp only [a_Sq]
    omega
/-! all comes to rest -/
def f_P (ht l : Int → Int) : Int → Int := fun j => l j * (ht j + 1)
theorem f_P_d {n : Nat} {u c h w l ht : Int → Int} (ok : f_ok n u c h w l) (hh : ∀ j : Int, 0 ≤ j → j < n → 0 ≤ ht j ∧ (u j = -1 ∨ (0 ≤ u j ∧ u j < n ∧ ht (u j) < ht j))) : ∀ k : Nat, k ≤ n → g_s (f_P ht (f_d u c (f_o w h l) l k).1) n ≤ g_s (f_P ht l) n - g_s (f_P ht (f_o w h l)) n + g_s (fun j => f_o w h l j * ht j) k
  | 0, _ => by
    have e : g_s (f_P ht l) n = g_s (fun j => f_P ht (f_d u c (f_o w h l) l 0).1 j + f_P ht (f_o w h l) j) n := g_s_en (fun j a b => by
      show l j * (ht j + 1) = (l j - f_o w h l j) * (ht j + 1) + f_o w h l j * (ht j + 1)
      rw [← Int.add_mul]; congr 1; omega)
    rw [e, g_s_sub]
    simp only [g_s]
    omega
  | k + 1, hk => by
    have ih := f_P_d ok hh k (by omega)
    have a := f_o_in ok (j := (k : Int)) (by omega) (by omega)
    have z := ok.2 (k : Int) (by omega) (by omega)
    have hk2 := hh k (by omega) (by omega)
    have p0 : 0 ≤ f_o w h l k * ht k := Int.mul_nonneg a.1 hk2.1
    simp only [g_s]
    by_cases hu : u k = -1
    · have d : (f_d u c (f_o w h l) l (k + 1)).1 = (f_d u c (f_o w h l) l k).1 := by simp only [f_d]; rw [if_pos hu]
      rw [d]; omega
    · have hu2 := hk2.2.resolve_left hu
      have dk := (f_d_in ok k (by omega)).1 (u k) hu2.1 hu2.2.1
      have bc := b_c_in ok (k := k) (by omega)
      have ec : b_c u c (f_o w h l) l k = min (f_o w h l k) (c (u k) - (f_d u c (f_o w h l) l k).1 (u k)) := by unfold b_c; rw [if_neg hu]
      have dt : (f_d u c (f_o w h l) l (k + 1)).1 (u k) = (f_d u c (f_o w h l) l k).1 (u k) + b_c u c (f_o w h l) l k := by simp only [f_d]; rw [if_neg hu, ec]; simp only [if_true, ite_true]
      have e := g_s_up (f := f_P ht (f_d u c (f_o w h l) l k).1) (g := f_P ht (f_d u c (f_o w h l) l (k + 1)).1) (t := u k) (n := n) hu2.1 hu2.2.1 (fun j a b hj => by
        have d : (f_d u c (f_o w h l) l (k + 1)).1 j = (f_d u c (f_o w h l) l k).1 j := by simp only [f_d]; rw [if_neg hu]; simp only; rw [if_neg hj]
        unfold f_P; rw [d])
      have e2 : f_P ht (f_d u c (f_o w h l) l (k + 1)).1 (u k) - f_P ht (f_d u c (f_o w h l) l k).1 (u k) = b_c u c (f_o w h l) l k * (ht (u k) + 1) := by
        unfold f_P; rw [dt, Int.add_mul]; omega
      have hu3 := (hh (u k) hu2.1 hu2.2.1).1
      have le1 : b_c u c (f_o w h l) l k * (ht (u k) + 1) ≤ f_o w h l k * ht k := Int.le_trans (Int.mul_le_mul_of_nonneg_right bc.2 (by omega)) (Int.mul_le_mul_of_nonneg_left (by omega) a.1)
      omega
theorem f_P_b {n : Nat} {u c h ht : Int → Int} {x : f_S} (ok : f_OK n u c h x) (hh : ∀ j : Int, 0 ≤ j → j < n → 0 ≤ ht j ∧ (u j = -1 ∨ (0 ≤ u j ∧ u j < n ∧ ht (u j) < ht j))) : g_s (f_P ht (f_b n u c h x).1) n ≤ g_s (f_P ht x.1) n - g_s (f_o x.2.1 h x.1) n := by
  have a := f_P_d ok hh n (Nat.le_refl n)
  have e : g_s (f_P ht (f_o x.2.1 h x.1)) n = g_s (fun j => f_o x.2.1 h x.1 j * ht j + f_o x.2.1 h x.1 j) n := g_s_en (fun j a b => by
    show f_o x.2.1 h x.1 j * (ht j + 1) = _
    rw [Int.mul_add, Int.mul_one])
  rw [g_s_sub (f := fun j => f_o x.2.1 h x.1 j * ht j)] at e
  show g_s (f_P ht (f_d u c (f_o x.2.1 h x.1) x.1 n).1) n ≤ _
  have e3 : g_s (fun j => f_o x.2.1 h x.1 j) n = g_s (f_o x.2.1 h x.1) n := rfl
  omega
theorem g_s_nn {f : Int → Int} : ∀ {n : Nat}, (∀ j : Int, 0 ≤ j → j < n → 0 ≤ f j) → 0 ≤ g_s f n
  | 0, _ => by simp [g_s]
  | n + 1, h => by
    have := g_s_nn (f := f) (n := n) (fun j a b => h j a (by omega))
    have := h n (by omega) (by omega)
    simp only [g_s]; omega
theorem g_s_pos {f : Int → Int} : ∀ {n : Nat}, (∀ j : Int, 0 ≤ j → j < n → 0 ≤ f j) → (∃ j : Int, 0 ≤ j ∧ j < n ∧ 0 < f j) → 0 < g_s f n
  | 0, _, ⟨j, a, b, _⟩ => absurd b (by omega)
  | n + 1, h, ⟨j, a, b, c⟩ => by
    have nn := g_s_nn (f := f) (n := n) (fun j a b => h j a (by omega))
    have hn := h n (by omega) (by omega)
    simp only [g_s]
    by_cases e : j = n
    · subst e; omega
    · have := g_s_pos (f := f) (n := n) (fun j a b => h j a (by omega)) ⟨j, a, by omega, c⟩
      omega
theorem f_it_wax {n : Nat} {u c h : Int → Int} {x : f_S} (hx : ∀ j : Int, 0 ≤ j → j < n → x.2.1 j ≤ 99) : ∀ v : Nat, ∀ j : Int, 0 ≤ j → j < n → (f_it n u c h v x).2.1 j ≤ max 0 (99 - v)
  | 0, j, a, b => by
    have := hx j a b
    show x.2.1 j ≤ _
    omega
  | v + 1, j, a, b => by
    have := f_it_wax (u := u) (c := c) (h := h) hx v j a b
    show max 0 ((f_it n u c h v x).2.1 j - 1) ≤ _
    omega
theorem f_rest {n : Nat} {u c h ht : Int → Int} {x : f_S} (ok : f_OK n u c h x) (hh : ∀ j : Int, 0 ≤ j → j < n → 0 ≤ ht j ∧ ht j ≤ 9 ∧ (u j = -1 ∨ (0 ≤ u j ∧ u j < n ∧ ht (u j) < ht j))) : ∃ N : Nat, N ≤ 5600 ∧ ¬ a_mov n h (f_it n u c h N x).1 ∧ ∀ v : Nat, v < N → a_mov n h (f_it n u c h v x).1 := by
  have hh' : ∀ j : Int, 0 ≤ j → j < n → 0 ≤ ht j ∧ (u j = -1 ∨ (0 ≤ u j ∧ u j < n ∧ ht (u j) < ht j)) := fun j a b => ⟨(hh j a b).1, (hh j a b).2.2⟩
  -- some bell is quiet
  have ex : ∃ N : Nat, N ≤ 5600 ∧ ¬ a_mov n h (f_it n u c h N x).1 := by
    refine Classical.byContradiction fun no => ?_
    have mov : ∀ v : Nat, v ≤ 5600 → a_mov n h (f_it n u c h v x).1 := fun v hv => Classical.byContradiction fun q => no ⟨v, hv, q⟩
    have key : ∀ d : Nat, 99 + d ≤ 5600 → g_s (f_P ht (f_it n u c h (99 + d) x).1) n ≤ 600 * n - d := by
      intro d
      induction d with
      | zero =>
        intro _
        have okv := ok.it 99
        have := g_s_in (f := f_P ht (f_it n u c h 99 x).1) (A := 600) (by decide) (n := n) (fun j a b => by
          have z := okv.2 j a b
          have y := hh j a b
          refine ⟨Int.mul_nonneg z.2.2.2.2.2.2.2.1 (by omega), ?_⟩
          have l60 : (f_it n u c h 99 x).1 j ≤ 60 := by omega
          exact Int.le_trans (Int.mul_le_mul_of_nonneg_right l60 (by omega)) (by omega))
        simp only [Nat.add_zero, Int.natCast_zero, Int.sub_zero]
        exact this.2
      | succ d ih =>
        intro hd
        have i := ih (by omega)
        have okv := ok.it (99 + d)
        have b := f_P_b (ht := ht) okv hh'
        obtain ⟨j, a1, a2, a3, a4⟩ := mov (99 + d) (by omega)
        have pos : 0 < g_s (f_o (f_it n u c h (99 + d) x).2.1 h (f_it n u c h (99 + d) x).1) n := g_s_pos (fun j a b => (f_o_in okv a b).1) ⟨j, a1, a2, by
          have wx := f_it_wax (u := u) (c := c) (h := h) (fun j a b => (ok.2 j a b).2.2.2.2.2.2.1) (99 + d) j a1 a2
          unfold f_o
          rw [if_neg (by omega)]
          omega⟩
        have e : g_s (f_P ht (f_it n u c h (99 + (d + 1)) x).1) n = g_s (f_P ht (f_b n u c h (f_it n u c h (99 + d) x)).1) n := rfl
        omega
    have k1 := key 5501 (by omega)
    have okv := ok.it (99 + 5501)
    have nn : 0 ≤ g_s (f_P ht (f_it n u c h (99 + 5501) x).1) n := g_s_nn (fun j a b => Int.mul_nonneg (okv.2 j a b).2.2.2.2.2.2.2.1 (by have := (hh j a b).1; omega))
    have h9 := ok.1
    omega
  -- the first such
  obtain ⟨N, hN, hq⟩ := ex
  have least : ∀ M : Nat, ¬ a_mov n h (f_it n u c h M x).1 → ∃ N : Nat, N ≤ M ∧ ¬ a_mov n h (f_it n u c h N x).1 ∧ ∀ v : Nat, v < N → a_mov n h (f_it n u c h v x).1 := by
    intro M
    induction M using Nat.strongRecOn with
    | ind M ih =>
      intro hM
      by_cases h2 : ∀ v : Nat, v < M → a_mov n h (f_it n u c h v x).1
      · exact ⟨M, Nat.le_refl M, hM, h2⟩
      · obtain ⟨v, hv⟩ := Classical.not_forall.mp h2
        obtain ⟨hv1, hv2⟩ := Classical.not_imp.mp hv
        obtain ⟨N, n1, n2, n3⟩ := ih v hv1 hv2
        exact ⟨N, by omega, n2, n3⟩
  obtain ⟨N', n1, n2, n3⟩ := least N hq
  exact ⟨N', by omega, n2, n3⟩
