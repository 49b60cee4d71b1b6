/-! ===== one bell with the levels alone ===== -/
/-- what goes out of each jar -/
def f_o (w h l : Int → Int) : Int → Int := fun j => if 0 < w j then 0 else min (h j) (l j)
/-- what has come down when the first k jars' drops have: levels, and what went to the sand -/
def f_d (u c o l : Int → Int) : Nat → (Int → Int) × Int
  | 0 => (fun j => l j - o j, 0)
  | k + 1 => if u k = -1 then ((f_d u c o l k).1, (f_d u c o l k).2 + o k) else
      (fun j => if j = u k then (f_d u c o l k).1 j + min (o k) (c (u k) - (f_d u c o l k).1 (u k)) else (f_d u c o l k).1 j, (f_d u c o l k).2 + (o k - min (o k) (c (u k) - (f_d u c o l k).1 (u k))))
/-- the pipes and levels of n jars are as they must be -/
def f_ok (n : Nat) (u c h w l : Int → Int) : Prop := n ≤ 9 ∧ ∀ j : Int, 0 ≤ j → j < n → (u j = -1 ∨ (0 ≤ u j ∧ u j < n)) ∧ 0 ≤ c j ∧ c j ≤ 60 ∧ 0 ≤ h j ∧ h j ≤ 9 ∧ 0 ≤ w j ∧ w j ≤ 99 ∧ 0 ≤ l j ∧ l j ≤ c j
theorem f_o_in {n : Nat} {u c h w l : Int → Int} (ok : f_ok n u c h w l) {j : Int} (h0 : 0 ≤ j) (h1 : j < n) : 0 ≤ f_o w h l j ∧ f_o w h l j ≤ l j ∧ f_o w h l j ≤ 9 := by
  have := ok.2 j h0 h1
  unfold f_o
  split <;> omega
theorem f_d_in {n : Nat} {u c h w l : Int → Int} (ok : f_ok n u c h w l) : ∀ k : Nat, k ≤ n → (∀ j : Int, 0 ≤ j → j < n → 0 ≤ (f_d u c (f_o w h l) l k).1 j ∧ (f_d u c (f_o w h l) l k).1 j ≤ c j) ∧ 0 ≤ (f_d u c (f_o w h l) l k).2 ∧ (f_d u c (f_o w h l) l k).2 ≤ 9 * k
  | 0, _ => by
    refine ⟨fun j h0 h1 => ?_, by simp [f_d], by simp [f_d]⟩
    have a := f_o_in ok h0 h1
    have b := ok.2 j h0 h1
    simp only [f_d]
    omega
  | k + 1, hk => by
    obtain ⟨a, b, d⟩ := f_d_in ok k (by omega)
    have o := f_o_in ok (j := (k : Int)) (by omega) (by omega)
    have z := ok.2 (k : Int) (by omega) (by omega)
    simp only [f_d]
    by_cases hu : u k = -1
    · rw [if_pos hu]
      exact ⟨a, by simp only; omega, by simp only; omega⟩
    · rw [if_neg hu]
      have hu2 : 0 ≤ u k ∧ u k < n := by omega
      have a2 := a (u k) hu2.1 hu2.2
      refine ⟨fun j h0 h1 => ?_, by simp only; omega, by simp only; omega⟩
      have a1 := a j h0 h1
      simp only
      split
      · rename_i e; subst e; omega
      · exact a1
theorem f_d_0 {n : Nat} {u c h w l : Int → Int} (ok : f_ok n u c h w l) (hz : ∀ j : Int, 0 ≤ j → j < n → f_o w h l j = 0) : ∀ k : Nat, k ≤ n → (∀ j : Int, 0 ≤ j → j < n → (f_d u c (f_o w h l) l k).1 j = l j) ∧ (f_d u c (f_o w h l) l k).2 = 0
  | 0, _ => ⟨fun j h0 h1 => by simp only [f_d]; rw [hz j h0 h1]; omega, rfl⟩
  | k + 1, hk => by
    obtain ⟨a, b⟩ := f_d_0 ok hz k (by omega)
    have o := hz (k : Int) (by omega) (by omega)
    have z := ok.2 (k : Int) (by omega) (by omega)
    simp only [f_d]
    by_cases hu : u k = -1
    · rw [if_pos hu]
      exact ⟨a, by simp only; omega⟩
    · rw [if_neg hu]
      have hu2 : 0 ≤ u k ∧ u k < n := by omega
      have a2 := a (u k) hu2.1 hu2.2
      have z2 := ok.2 (u k) hu2.1 hu2.2
      refine ⟨fun j h0 h1 => ?_, by simp only; omega⟩
      have a1 := a j h0 h1
      simp only
      split
      · rename_i e; subst e; omega
      · exact a1
/-- the numbers of m' are m's but for these cells -/
def q_fr (cs : List Int) (m m' : qm) : Prop := ∀ c, c ∉ cs → ∀ i, m' c i = m c i
theorem q_fr.rf {cs : List Int} {m : qm} : q_fr cs m m := fun _ _ _ => rfl
theorem q_fr.up {cs : List Int} {m m' : qm} (h : q_fr cs m m') {c i v : Int} (hc : c ∈ cs) : q_fr cs m (q_up m' c i v) := fun c' h' i' => (q_up_c (fun e => h' (by rw [e]; exact hc))).trans (h c' h' i')
theorem q_fr.tr {cs : List Int} {m m' m'' : qm} (h : q_fr cs m m') (h2 : q_fr cs m' m'') : q_fr cs m m'' := fun c hc i => (h2 c hc i).trans (h c hc i)
theorem q_fr.mono {cs cs' : List Int} {m m' : qm} (h : q_fr cs m m') (hs : ∀ c ∈ cs, c ∈ cs') : q_fr cs' m m' := fun c hc i => h c (fun z => hc (hs c z)) i
theorem q_in_of {x : Int} (h1 : -2147483648 ≤ x) (h2 : x < 2147483648) : q_in32 x := ⟨h1, h2⟩
theorem q_ior00 : q_oior 0 0 = 0 := by decide
theorem q_ior01 : q_oior 0 1 = 1 := by decide
theorem q_ior10 : q_oior 1 0 = 1 := by decide
theorem q_ior11 : q_oior 1 1 = 1 := by decide
/-! Arrays.fill -/
theorem sp_fill {c x b : Int} {mem : qm} (hc : q_sh0[c.toNat]? = some (0, 9)) : q_Ev yJ7_fill_53178 cJ7_fill_53178 4 none 1 0 0 [(2, c), (0, x)] (q_sh0, q_rb b, mem) (qK (q_rb b) (fun _ m => (∀ i, 0 ≤ i → i < 9 → m c i = x) ∧ q_fr [c] mem m)) := by
  refine q_enter (by decide +kernel) (by simp) (Nat.le_of_ble_eq_true rfl) ?_
  refine bkJ7_fill_53178_0 hc ?_
  have key : ∀ (k : Nat) (v : Int) (m : qm), 0 ≤ v → v ≤ 9 → (9 - v).toNat = k → (∀ i, 0 ≤ i → i < v → m c i = x) → q_fr [c] mem m → q_At yJ7_fill_53178 cJ7_fill_53178 4 none 1 0 0 (qK (q_rb b) (fun _ m => (∀ i, 0 ≤ i → i < 9 → m c i = x) ∧ q_fr [c] mem m)) 5 [(2, c), (0, x), (0, v), (0, 9)] [] (q_sh0, q_rb b, m) := by
    intro k
    induction k with
    | zero =>
      intro v m h0 h1 hk hm hf
      exact bkJ7_fill_53178_5 hc (fun _ => ⟨fun i a1 a2 => hm i a1 (by omega), hf⟩) (fun z => absurd z (by omega)) (fun z => absurd z (by omega))
    | succ k ih =>
      intro v m h0 h1 hk hm hf
      refine bkJ7_fill_53178_5 hc (fun z => absurd z (by omega)) (fun _ => ⟨by omega, q_in_of (by omega) (by omega)⟩) (fun _ => ?_)
      refine ih (v + 1) _ (by omega) (by omega) (by omega) (fun i a1 a2 => ?_) (hf.up (by simp))
      by_cases hi : i = v
      · subst hi; exact q_up_s
      · rw [q_up_i hi]; exact hm i a1 (by omega)
  exact key 9 0 mem (by omega) (by omega) (by omega) (fun i a1 a2 => absurd a1 (by omega)) q_fr.rf
/-! Flow.start -/
theorem sp_start {s b : Int} {mem : qm} (hs : q_st s) : q_Ev yX1_start cX1_start 2 none 2 0 0 [(2, 26), (2, s)] (q_sh0, q_rb b, mem) (qK (q_rb b) (fun _ m => (∀ i, 0 ≤ i → i < 9 → m 27 i = mem (s + 3) i ∧ m 28 i = mem (s + 5) i ∧ m 29 i = mem (s + 6) i ∧ m 30 i = mem (s + 4) i ∧ m 32 i = -1) ∧ m 26 7 = 0 ∧ m 26 8 = 0 ∧ q_fr [26, 27, 28, 29, 30, 32] mem m)) := by
  refine q_enter (by decide +kernel) (by simp) (Nat.le_of_ble_eq_true rfl) ?_
  have hg := qst_gap hs
  refine bkX1_start_0 hs (sp_fill qs32) (fun r m hm _ => ?_)
  obtain ⟨h1, h2⟩ := hm
  have e : ∀ c i, c ≠ 26 → c ≠ 32 → q_up (q_up m 26 7 0) 26 8 0 c i = q_cp (q_cp (q_cp (q_cp mem (s + 3) 0 27 0 9) (s + 5) 0 28 0 9) (s + 6) 0 29 0 9) (s + 4) 0 30 0 9 c i := by
    intro c i g1 g2
    rw [q_up_c g1, q_up_c g1]
    exact h2 c (by simpa using g2) i
  refine ⟨fun i a1 a2 => ⟨?_, ?_, ?_, ?_, ?_⟩, ?_, q_up_s, ?_⟩
  · rw [e _ _ (by decide) (by decide), q_cp_c (by decide), q_cp_c (by decide), q_cp_c (by decide)]
    unfold q_cp; rw [if_pos (by omega)]; congr 1; omega
  · rw [e _ _ (by decide) (by decide), q_cp_c (by decide), q_cp_c (by decide)]
    unfold q_cp; rw [if_pos (by omega), if_neg (by omega)]; congr 1; omega
  · rw [e _ _ (by decide) (by decide), q_cp_c (by decide)]
    unfold q_cp; rw [if_pos (by omega), if_neg (by omega), if_neg (by omega)]; congr 1; omega
  · rw [e _ _ (by decide) (by decide)]
    unfold q_cp; rw [if_pos (by omega), if_neg (by omega), if_neg (by omega), if_neg (by omega)]; congr 1; omega
  · rw [q_up_c (by decide), q_up_c (by decide)]
    exact h1 i a1 a2
  · rw [q_up_i (by decide)]; exact q_up_s
  · intro c hc i
    simp at hc
    rw [e c i (by omega) (by omega), q_cp_c (by omega), q_cp_c (by omega), q_cp_c (by omega), q_cp_c (by omega)]
/-! Flow.comeDown -/
theorem sp_comeDown {n to b : Int} {mem : qm} (hn : 0 ≤ n ∧ n ≤ 9) (ht : to = -1 ∨ (0 ≤ to ∧ to < 9 ∧ 0 ≤ mem 27 to ∧ mem 27 to ≤ mem 2 to ∧ mem 2 to ≤ 60)) (hl : 0 ≤ mem 26 7 ∧ mem 26 7 < 1000000000) :
    q_Ev yX1_comeDown cX1_comeDown 4 none 1 0 0 [(2, 26), (0, n), (0, to)] (q_sh0, q_rb b, mem) (qK (q_rb b) (fun _ m =>
      (to = -1 → m = q_up mem 26 7 (mem 26 7 + n)) ∧ (to ≠ -1 → m = q_up (q_up mem 27 to (mem 27 to + min n (mem 2 to - mem 27 to))) 26 7 (mem 26 7 + (n - min n (mem 2 to - mem 27 to)))))) := by
  refine q_enter (by decide +kernel) (by simp) (Nat.le_of_ble_eq_true rfl) ?_
  refine bkX1_comeDown_0 (fun z => ⟨by omega, q_in_of (by omega) (by omega)⟩) (fun z z2 => absurd z2 z) (fun z z2 => absurd z2 z) (fun z _ => ⟨q_in_of (by omega) (by omega), q_in_of (by omega) (by omega), q_in_of (by omega) (by omega)⟩) (fun z _ => ⟨fun z2 => absurd z2 z, fun _ => rfl⟩) (fun z _ => ⟨q_in_of (by omega) (by omega), q_in_of (by omega) (by omega)⟩) (fun z _ => ⟨fun _ => by rw [Int.sub_zero], fun z2 => absurd z z2⟩) (fun z z2 => absurd z z2) (fun z z2 => absurd z z2)
/-! Flow.strike -/
def f_stir (n : Int) (w h l : Int → Int) : Prop := ∃ j : Int, 0 ≤ j ∧ j < n ∧ (0 < w j ∨ 0 < f_o w h l j)
theorem sp_strike {b : Int} {mem : qm} (n : Nat) (hn : mem 1 3 = n) (ok : f_ok n (mem 29) (mem 2) (mem 28) (mem 30) (mem 27)) (hl : 0 ≤ mem 26 7 ∧ mem 26 7 < 100000000) :
    q_Ev yX1_strike cX1_strike 4 none 2 0 0 [(2, 26)] (q_sh0, q_rb b, mem) (qK (q_rb b) (fun _ m =>
      (∀ i : Int, 0 ≤ i → i < n → m 27 i = (f_d (mem 29) (mem 2) (f_o (mem 30) (mem 28) (mem 27)) (mem 27) n).1 i ∧ m 30 i = max 0 (mem 30 i - 1)) ∧
      m 26 7 = mem 26 7 + (f_d (mem 29) (mem 2) (f_o (mem 30) (mem 28) (mem 27)) (mem 27) n).2 ∧
      ((m 26 8 = 0 ∧ f_stir n (mem 30) (mem 28) (mem 27)) ∨ (m 26 8 = 1 ∧ ¬ f_stir n (mem 30) (mem 28) (mem 27))) ∧
      q_fr [26, 27, 30, 31] mem m)) := by
  generalize hQ : (fun (_ : Int) (m : qm) =>
      (∀ i : Int, 0 ≤ i → i < n → m 27 i = (f_d (mem 29) (mem 2) (f_o (mem 30) (mem 28) (mem 27)) (mem 27) n).1 i ∧ m 30 i = max 0 (mem 30 i - 1)) ∧
      m 26 7 = mem 26 7 + (f_d (mem 29) (mem 2) (f_o (mem 30) (mem 28) (mem 27)) (mem 27) n).2 ∧
      ((m 26 8 = 0 ∧ f_stir n (mem 30) (mem 28) (mem 27)) ∨ (m 26 8 = 1 ∧ ¬ f_stir n (mem 30) (mem 28) (mem 27))) ∧
      q_fr [26, 27, 30, 31] mem m) = Q
  have h9 := ok.1
  refine q_enter (by decide +kernel) (by simp) (Nat.le_of_ble_eq_true rfl) ?_
  refine bkX1_strike_0 ?_
  -- the second loop
  have k2 : ∀ (k : Nat) (v : Nat) (v1 : Int) (m : qm), v ≤ n → n - v = k → v1 ≠ 0 → q_fr [26, 27, 30, 31] mem m → (∀ i : Int, 0 ≤ i → i < n → m 31 i = f_o (mem 30) (mem 28) (mem 27) i ∧ m 27 i = (f_d (mem 29) (mem 2) (f_o (mem 30) (mem 28) (mem 27)) (mem 27) v).1 i ∧ m 30 i = max 0 (mem 30 i - 1)) → m 26 7 = mem 26 7 + (f_d (mem 29) (mem 2) (f_o (mem 30) (mem 28) (mem 27)) (mem 27) v).2 → m 26 8 = 0 → f_stir n (mem 30) (mem 28) (mem 27) →
      q_At yX1_strike cX1_strike 4 none 2 0 0 (qK (q_rb b) Q) 107 [(2, 26), (0, v1), (0, (v : Int)), (4, 0)] [] (q_sh0, q_rb b, m) := by
    intro k
    induction k with
    | zero =>
      intro v v1 m hv hk h1 hf hm hlo hov hst
      have hnm : m 1 3 = n := (hf 1 (by decide) 3).trans hn
      have hvn : v = n := by omega
      subst hvn
      refine bkX1_strike_107 (fun _ => ?_) (fun z => absurd z (by omega)) (fun z => absurd z (by omega)) (fun z => absurd z (by omega)) (fun z => absurd z (by omega)) (P4 := fun _ _ => True) (fun z => absurd z (by omega)) (fun z => absurd z (by omega)) (fun z => absurd z (by omega))
      rw [← hQ]
      exact ⟨fun i a1 a2 => ⟨(hm i a1 a2).2.1, (hm i a1 a2).2.2⟩, hlo, Or.inl ⟨hov, hst⟩, hf⟩
    | succ k ih =>
      intro v v1 m hv hk h1 hf hm hlo hov hst
      have hnm : m 1 3 = n := (hf 1 (by decide) 3).trans hn
      have hvv := hm (v : Int) (by omega) (by omega)
      have okv := ok.2 (v : Int) (by omega) (by omega)
      have ov := f_o_in ok (j := (v : Int)) (by omega) (by omega)
      have dv := f_d_in ok v hv
      have m29 : m 29 v = mem 29 v := hf 29 (by decide) v
      refine bkX1_strike_107 (fun z => absurd z (by omega)) (fun _ z => absurd z h1) (fun _ _ => by omega) (fun _ _ _ => q_in_of (by omega) (by omega)) (fun _ _ z => ?_) (fun _ _ z => sp_comeDown (by omega) ?_ (by omega)) (fun _ _ _ _ _ _ _ => q_in_of (by omega) (by omega)) (fun _ _ z r m2 h2 _ => ?_)
      · -- nothing went out of this jar
        have oz : f_o (mem 30) (mem 28) (mem 27) v = 0 := by omega
        refine ih (v + 1) v1 m (by omega) (by omega) h1 hf (fun i a1 a2 => ⟨(hm i a1 a2).1, ?_, (hm i a1 a2).2.2⟩) ?_ hov hst
        · rw [(hm i a1 a2).2.1]
          simp only [f_d]
          by_cases hu : mem 29 v = -1
          · rw [if_pos hu]
          · rw [if_neg hu]
            have d2 := dv.1 (mem 29 v) (by omega) (by omega)
            have c2 := ok.2 (mem 29 v) (by omega) (by omega)
            simp only
            split
            · rename_i e; subst e; rw [oz]; omega
            · rfl
        · rw [hlo]
          simp only [f_d]
          by_cases hu : mem 29 v = -1
          · rw [if_pos hu]; simp only; omega
          · rw [if_neg hu]
            have d2 := dv.1 (mem 29 v) (by omega) (by omega)
            simp only; omega
      · rw [m29]
        rcases okv.1 with hu | hu
        · exact Or.inl hu
        · refine Or.inr ⟨hu.1, by omega, ?_⟩
          have e1 := (hm (mem 29 v) hu.1 hu.2).2.1
          have e2 : m 2 (mem 29 v) = mem 2 (mem 29 v) := hf 2 (by decide) _
          have d2 := dv.1 (mem 29 v) hu.1 hu.2
          have c2 := ok.2 (mem 29 v) hu.1 hu.2
          omega
      · obtain ⟨g1, g2⟩ := h2
        rw [m29] at g1 g2
        by_cases hu : mem 29 v = -1
        · have e := g1 hu
          subst e
          refine ih (v + 1) v1 _ (by omega) (by omega) h1 (hf.up (by decide)) (fun i a1 a2 => ?_) ?_ ((q_up_i (by decide)).trans hov) hst
          · rw [q_up_c (by decide), q_up_c (by decide), q_up_c (by decide)]
            refine ⟨(hm i a1 a2).1, ?_, (hm i a1 a2).2.2⟩
            rw [(hm i a1 a2).2.1]
            simp only [f_d]; rw [if_pos hu]
          · rw [q_up_s, hlo, hvv.1]
            simp only [f_d]; rw [if_pos hu]; simp only; omega
        · have e := g2 hu
          subst e
          have hu2 : 0 ≤ mem 29 v ∧ mem 29 v < n := by omega
          have e1 := (hm (mem 29 v) hu2.1 hu2.2).2.1
          have e2 : m 2 (mem 29 v) = mem 2 (mem 29 v) := hf 2 (by decide) _
          refine ih (v + 1) v1 _ (by omega) (by omega) h1 ((hf.up (by decide)).up (by decide)) (fun i a1 a2 => ?_) ?_ ?_ hst
          · simp only [q_up, Int.reduceEq, false_and, true_and, ite_false]
            refine ⟨(hm i a1 a2).1, ?_, (hm i a1 a2).2.2⟩
            simp only [f_d]; rw [if_neg hu]; simp only
            by_cases hi : i = mem 29 v
            · subst hi; rw [if_pos rfl, if_pos rfl, e1, e2, hvv.1]
            · rw [if_neg hi, if_neg hi]; exact (hm i a1 a2).2.1
          · rw [q_up_s, hlo, hvv.1, e1, e2]
            simp only [f_d]; rw [if_neg hu]; simp only; omega
          · rw [q_up_i (by decide), q_up_c (by decide)]; exact hov
  -- the first loop
  have k1 : ∀ (k : Nat) (v : Nat) (v1 : Int) (m : qm), v ≤ n → n - v = k → (v1 = 0 ∨ v1 = 1) → (v1 = 1 ↔ f_stir v (mem 30) (mem 28) (mem 27)) → q_fr [27, 30, 31] mem m →
      (∀ i : Int, 0 ≤ i → i < v → m 31 i = f_o (mem 30) (mem 28) (mem 27) i ∧ m 27 i = mem 27 i - f_o (mem 30) (mem 28) (mem 27) i ∧ m 30 i = max 0 (mem 30 i - 1)) → (∀ i : Int, v ≤ i → m 27 i = mem 27 i ∧ m 30 i = mem 30 i) →
      q_At yX1_strike cX1_strike 4 none 2 0 0 (qK (q_rb b) Q) 4 [(2, 26), (0, v1), (0, (v : Int)), (4, 0)] [] (q_sh0, q_rb b, m) := by
    intro k
    induction k with
    | zero =>
      intro v v1 m hv hk h1 hs hf hm hm2
      have hnm : m 1 3 = n := (hf 1 (by decide) 3).trans hn
      have hvn : v = n := by omega
      subst hvn
      have hf2 : q_fr [26, 27, 30, 31] mem m := hf.mono (by simp)
      have h267 : m 26 7 = mem 26 7 := hf 26 (by decide) 7
      have dead : ∀ {p : Prop}, (v : Int) < m 1 3 → p := fun z => absurd z (by omega)
      refine bkX1_strike_4 (fun _ z => ?_) (fun _ z => ?_) (fun z => dead z) (fun z => dead z) (fun z => dead z) (fun z => dead z) (fun z => dead z) (fun z => dead z) (fun z => dead z) (fun z => dead z)
      · refine k2 v 0 v1 _ (by omega) (by omega) z (hf2.up (by decide)) (fun i a1 a2 => ?_) ?_ q_up_s (hs.mp (by omega))
        · simp only [q_up, Int.reduceEq, false_and, ite_false]
          exact hm i a1 a2
        · rw [q_up_i (by decide)]
          simp only [f_d]
          omega
      · subst z
        have nst : ¬ f_stir v (mem 30) (mem 28) (mem 27) := fun q => absurd (hs.mpr q) (by decide)
        have hz : ∀ j : Int, 0 ≤ j → j < v → f_o (mem 30) (mem 28) (mem 27) j = 0 := by
          intro j a1 a2
          have := f_o_in ok a1 a2
          by_cases h : 0 < f_o (mem 30) (mem 28) (mem 27) j
          · exact absurd ⟨j, a1, a2, Or.inr h⟩ nst
          · omega
        have d0 := f_d_0 ok hz v (Nat.le_refl _)
        refine bkX1_strike_107 (fun _ => ?_) (fun _ _ => ?_) (fun _ z => absurd rfl z) (fun _ z => absurd rfl z) (fun _ z => absurd rfl z) (P4 := fun _ _ => True) (fun _ z => absurd rfl z) (fun _ z => absurd rfl z) (fun _ z => absurd rfl z) <;>
        · rw [← hQ]
          refine ⟨fun i a1 a2 => ?_, ?_, Or.inr ⟨q_up_s, nst⟩, hf2.up (by decide)⟩
          · simp only [q_up, Int.reduceEq, false_and, ite_false]
            refine ⟨?_, (hm i a1 a2).2.2⟩
            rw [(hm i a1 a2).2.1, d0.1 i a1 a2, hz i a1 a2]; omega
          · rw [q_up_i (by decide), d0.2]; omega
    | succ k ih =>
      intro v v1 m hv hk h1 hs hf hm hm2
      have hnm : m 1 3 = n := (hf 1 (by decide) 3).trans hn
      have okv := ok.2 (v : Int) (by omega) (by omega)
      have ov := f_o_in ok (j := (v : Int)) (by omega) (by omega)
      obtain ⟨e27, e30⟩ := hm2 (v : Int) (by omega)
      have e28 : m 28 v = mem 28 v := hf 28 (by decide) v
      have step : ∀ (v1' x30 : Int) (m' : qm), (v1' = 0 ∨ v1' = 1) → (v1' = 1 ↔ v1 = 1 ∨ 0 < mem 30 v ∨ 0 < f_o (mem 30) (mem 28) (mem 27) v) → x30 = max 0 (mem 30 v - 1) → q_fr [27, 30, 31] mem m' → (∀ i : Int, m' 31 i = if i = v then f_o (mem 30) (mem 28) (mem 27) v else m 31 i) → (∀ i : Int, m' 27 i = if i = v then mem 27 v - f_o (mem 30) (mem 28) (mem 27) v else m 27 i) → (∀ i : Int, m' 30 i = if i = v then x30 else m 30 i) →
          q_At yX1_strike cX1_strike 4 none 2 0 0 (qK (q_rb b) Q) 4 [(2, 26), (0, v1'), (0, (v : Int) + 1), (4, 0)] [] (q_sh0, q_rb b, m') := by
        intro v1' x30 m' g1 g2 g3 g4 g5 g6 g7
        refine ih (v + 1) v1' m' (by omega) (by omega) g1 ?_ g4 (fun i a1 a2 => ?_) (fun i a1 => ?_)
        · rw [g2]
          constructor
          · rintro (h | h)
            · obtain ⟨j, a1, a2, a3⟩ := hs.mp h
              exact ⟨j, a1, by omega, a3⟩
            · exact ⟨v, by omega, by omega, h⟩
          · rintro ⟨j, a1, a2, a3⟩
            by_cases hj : j = v
            · subst hj; exact Or.inr a3
            · exact Or.inl (hs.mpr ⟨j, a1, by omega, a3⟩)
        · rw [g5, g6, g7]
          by_cases hi : i = v
          · subst hi; rw [if_pos rfl, if_pos rfl, if_pos rfl]; exact ⟨rfl, rfl, g3⟩
          · rw [if_neg hi, if_neg hi, if_neg hi]; exact hm i a1 (by omega)
        · rw [g6, g7, if_neg (by omega), if_neg (by omega)]
          exact hm2 i (by omega)
      have hup : ∀ x y : Int, q_fr [27, 30, 31] mem (q_up (q_up m 31 v x) 27 v y) := fun x y => (hf.up (by decide)).up (by decide)
      refine bkX1_strike_4 (fun z => absurd z (by omega)) (fun z => absurd z (by omega)) (fun _ => by omega) (fun _ _ => q_in_of (by omega) (by omega)) (fun _ _ _ => q_in_of (by omega) (by omega)) (fun _ c1 c2 => ?_) (fun _ _ _ => q_in_of (by omega) (by omega)) (fun _ c1 c2 => ?_) (fun _ _ => ⟨q_in_of (by omega) (by omega), q_in_of (by omega) (by omega), q_in_of (by omega) (by omega)⟩) (fun _ c1 => ?_)
      · have hov : f_o (mem 30) (mem 28) (mem 27) v = min (m 28 v) (m 27 v) := by unfold f_o; rw [if_neg (by omega), e28, e27]
        refine step _ (m 30 v) _ ?_ ?_ (by omega) (hup _ _) (fun i => ?_) (fun i => ?_) (fun i => ?_)
        · rcases h1 with rfl | rfl
          · exact Or.inl q_ior00
          · exact Or.inr q_ior10
        · rcases h1 with rfl | rfl
          · rw [q_ior00]; omega
          · rw [q_ior10]; omega
        · simp only [q_up, Int.reduceEq, false_and, true_and, ite_false]; rw [hov]
        · simp only [q_up, Int.reduceEq, false_and, true_and, ite_false]; rw [hov, ← e27]
        · simp only [q_up, Int.reduceEq, false_and, true_and, ite_false]
          split
          · rename_i e; rw [e]
          · rfl
      · have hov : f_o (mem 30) (mem 28) (mem 27) v = min (m 28 v) (m 27 v) := by unfold f_o; rw [if_neg (by omega), e28, e27]
        refine step _ (m 30 v) _ ?_ ?_ (by omega) (hup _ _) (fun i => ?_) (fun i => ?_) (fun i => ?_)
        · rcases h1 with rfl | rfl
          · exact Or.inr q_ior01
          · exact Or.inr q_ior11
        · rcases h1 with rfl | rfl
          · rw [q_ior01]; omega
          · rw [q_ior11]; omega
        · simp only [q_up, Int.reduceEq, false_and, true_and, ite_false]; rw [hov]
        · simp only [q_up, Int.reduceEq, false_and, true_and, ite_false]; rw [hov, ← e27]
        · simp only [q_up, Int.reduceEq, false_and, true_and, ite_false]
          split
          · rename_i e; rw [e]
          · rfl
      · have hov : f_o (mem 30) (mem 28) (mem 27) v = 0 := by unfold f_o; rw [if_pos (by omega)]
        refine step _ (m 30 v - 1) _ (Or.inr q_ior10) ?_ (by omega) (((hf.up (by decide)).up (by decide)).up (by decide)) (fun i => ?_) (fun i => ?_) (fun i => ?_)
        · rw [q_ior10]; omega
        · simp only [q_up, Int.reduceEq, false_and, true_and, ite_false]; rw [hov]
        · simp only [q_up, Int.reduceEq, false_and, true_and, ite_false]; rw [hov, ← e27]
        · simp only [q_up, Int.reduceEq, false_and, true_and, ite_false]
  exact k1 n 0 0 mem (by omega) (by omega) (Or.inl rfl) ⟨fun h => absurd h (by decide), fun ⟨j, a, b, _⟩ => absurd b (by omega)⟩ q_fr.rf (fun i a1 a2 => absurd a2 (by omega)) (fun i _ => ⟨rfl, rfl⟩)
