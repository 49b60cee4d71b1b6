/-! ===== how many are alike, how many unlike ===== -/
def a_wr (f : Int → Int) (K : Nat) : Nat → Int
  | 0 => 0
  | w + 1 => max (a_wr f K w) (g_n f (f w) K)
def a_un (f : Int → Int) : Nat → Int
  | 0 => 0
  | w + 1 => a_un f w + if g_n f (f w) w = 0 then 1 else 0
theorem g_n_cons {f g : Int → Int} {v : Int} (hs : ∀ i : Int, 0 ≤ i → f (i + 1) = g i) : ∀ k : Nat, g_n f v (k + 1) = g_n g v k + if f 0 = v then 1 else 0
  | 0 => by simp [g_n]
  | k + 1 => by
    show g_n f v (k + 1) + (if f ((k + 1 : Nat) : Int) = v then 1 else 0) = g_n g v k + (if g (k : Int) = v then 1 else 0) + _
    rw [g_n_cons hs k, show ((k + 1 : Nat) : Int) = (k : Int) + 1 by omega, hs k (by omega)]
    omega
theorem a_wr_cons {f g : Int → Int} {c : Int → Int} {K K' : Nat} (hs : ∀ i : Int, 0 ≤ i → f (i + 1) = g i) (h1 : ∀ v, g_n f v K = c v) (h2 : ∀ v, g_n g v K' = c v) : ∀ k : Nat, a_wr f K (k + 1) = max (max 0 (c (f 0))) (a_wr g K' k)
  | 0 => by simp only [a_wr]; rw [h1]; simp
  | k + 1 => by
    have ih := a_wr_cons (K := K) hs h1 h2 k
    show max (a_wr f K (k + 1)) (g_n f (f ((k + 1 : Nat) : Int)) K) = max (max 0 (c (f 0))) (max (a_wr g K' k) (g_n g (g k) K'))
    rw [ih, h1, h2, show ((k + 1 : Nat) : Int) = (k : Int) + 1 by omega, hs k (by omega)]
    omega
theorem a_wr_nn {f : Int → Int} {K : Nat} : ∀ k : Nat, 0 ≤ a_wr f K k ∧ a_wr f K k ≤ K
  | 0 => by simp [a_wr]
  | k + 1 => by have := a_wr_nn (f := f) (K := K) k; have := g_n_in (f := f) (v := f k) K; simp only [a_wr]; omega
theorem a_wr_en {f g : Int → Int} {K : Nat} (h : ∀ i : Int, 0 ≤ i → i < K → f i = g i) : ∀ k : Nat, k ≤ K → a_wr f K k = a_wr g K k
  | 0, _ => rfl
  | k + 1, hk => by
    simp only [a_wr]
    rw [a_wr_en h k (by omega), g_n_en (f := f) (g := g) (fun i a b => h i a b), h k (by omega) (by omega)]
theorem a_un_en {f g : Int → Int} {K : Nat} (h : ∀ i : Int, 0 ≤ i → i < K → f i = g i) : ∀ k : Nat, k ≤ K → a_un f k = a_un g k
  | 0, _ => rfl
  | k + 1, hk => by
    simp only [a_un]
    rw [a_un_en h k (by omega), g_n_en (f := f) (g := g) (k := k) (fun i a b => h i a (by omega)), h k (by omega) (by omega)]
theorem a_un_in {f : Int → Int} : ∀ k : Nat, 0 ≤ a_un f k ∧ a_un f k ≤ k
  | 0 => by simp [a_un]
  | k + 1 => by have := a_un_in (f := f) k; simp only [a_un]; split <;> omega
theorem a_un_cons {f g : Int → Int} (hs : ∀ i : Int, 0 ≤ i → f (i + 1) = g i) : ∀ k : Nat, a_un f (k + 1) + (if g_n g (f 0) k = 0 then 0 else 1) = 1 + a_un g k
  | 0 => by simp [a_un, g_n]
  | k + 1 => by
    have ih := a_un_cons hs k
    have e : a_un f (k + 1 + 1) = a_un f (k + 1) + if g_n f (f ((k + 1 : Nat) : Int)) (k + 1) = 0 then 1 else 0 := rfl
    have e2 : a_un g (k + 1) = a_un g k + if g_n g (g k) k = 0 then 1 else 0 := rfl
    have e3 : g_n g (f 0) (k + 1) = g_n g (f 0) k + if g k = f 0 then 1 else 0 := rfl
    have p1 := g_n_in (f := g) (v := f 0) k
    have p2 := g_n_in (f := g) (v := g k) k
    rw [e, e2, e3, show ((k + 1 : Nat) : Int) = (k : Int) + 1 by omega, hs k (by omega), g_n_cons hs k]
    by_cases h : g k = f 0
    · rw [if_pos h, h, if_pos rfl]
      rw [h] at p2
      by_cases h2 : g_n g (f 0) k = 0
      · rw [if_pos h2] at ih ⊢
        rw [if_neg (by omega), if_neg (by omega)]
        omega
      · rw [if_neg h2] at ih ⊢
        rw [if_neg (by omega), if_neg (by omega)]
        omega
    · have h' : ¬ f 0 = g k := fun z => h z.symm
      simp only [if_neg h, if_neg h', Int.add_zero]
      generalize (if g_n g (f 0) k = 0 then (0 : Int) else 1) = X at ih ⊢
      generalize (if g_n g (g k) k = 0 then (1 : Int) else 0) = Y
      omega
/-- the first moved to the end -/
theorem a_rot {f g : Int → Int} {k : Nat} (h0 : ∀ i : Int, 0 ≤ i → i < k → f (i + 1) = g i) (h1 : g k = f 0) : a_wr f (k + 1) (k + 1) = a_wr g (k + 1) (k + 1) ∧ a_un f (k + 1) = a_un g (k + 1) := by
  have key : ∀ f : Int → Int, (∀ i : Int, 0 ≤ i → f (i + 1) = g i) → g k = f 0 → a_wr f (k + 1) (k + 1) = a_wr g (k + 1) (k + 1) ∧ a_un f (k + 1) = a_un g (k + 1) := by
    intro f hs h1
    have c : ∀ v, g_n f v (k + 1) = g_n g v (k + 1) := fun v => by
      rw [g_n_cons hs k]
      show _ = g_n g v k + if g (k : Int) = v then 1 else 0
      rw [h1]
    constructor
    · rw [a_wr_cons (K' := k + 1) hs (fun v => rfl) (fun v => (c v).symm) k]
      show _ = max (a_wr g (k + 1) k) (g_n g (g k) (k + 1))
      have := g_n_in (f := f) (v := f 0) (k + 1)
      rw [h1, c]
      have := g_n_in (f := g) (v := f 0) (k + 1)
      omega
    · have := a_un_cons hs k
      show _ = a_un g k + if g_n g (g k) k = 0 then 1 else 0
      rw [h1]
      split at this
      · rename_i z; rw [if_pos z]; omega
      · rename_i z; rw [if_neg z]; omega
  have e : ∀ i : Int, 0 ≤ i → i < (k + 1 : Nat) → f i = (fun i => if i = 0 then f 0 else g (i - 1)) i := fun i a b => by
    show f i = if i = 0 then f 0 else g (i - 1)
    by_cases hi : i = 0
    · rw [if_pos hi, hi]
    · rw [if_neg hi]
      have := h0 (i - 1) (by omega) (by omega)
      rw [show i - 1 + 1 = i by omega] at this
      exact this
  have r := key (fun i => if i = 0 then f 0 else g (i - 1)) (fun i a => by
    show (if i + 1 = 0 then f 0 else g (i + 1 - 1)) = g i
    rw [if_neg (by omega), show i + 1 - 1 = i by omega]) (by show g k = if (0 : Int) = 0 then f 0 else g (0 - 1); rw [if_pos rfl]; exact h1)
  rw [a_wr_en e (k + 1) (Nat.le_refl _), a_un_en e (k + 1) (Nat.le_refl _)]
  exact r
