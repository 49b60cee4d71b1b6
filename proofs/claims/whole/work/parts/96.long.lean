/-! ===== flows with longer wax ===== -/
def f_okL (n : Nat) (u c h w l : Int → Int) : Prop := n ≤ 9 ∧ ∀ j : Int, 0 ≤ j → j < n → (u j = -1 ∨ (0 ≤ u j ∧ u j < n)) ∧ 0 ≤ c j ∧ c j ≤ 60 ∧ 0 ≤ h j ∧ h j ≤ 9 ∧ 0 ≤ w j ∧ w j ≤ 999 ∧ 0 ≤ l j ∧ l j ≤ c j
theorem f_o_inL {n : Nat} {u c h w l : Int → Int} (ok : f_okL n u c h w l) {j : Int} (h0 : 0 ≤ j) (h1 : j < n) : 0 ≤ f_o w h l j ∧ f_o w h l j ≤ l j ∧ f_o w h l j ≤ 9 := by
  have := ok.2 j h0 h1
  unfold f_o
  split <;> omega
theorem f_d_inL {n : Nat} {u c h w l : Int → Int} (ok : f_okL n u c h w l) : ∀ k : Nat, k ≤ n → (∀ j : Int, 0 ≤ j → j < n → 0 ≤ (f_d u c (f_o w h l) l k).1 j ∧ (f_d u c (f_o w h l) l k).1 j ≤ c j) ∧ 0 ≤ (f_d u c (f_o w h l) l k).2 ∧ (f_d u c (f_o w h l) l k).2 ≤ 9 * k
  | 0, _ => by
    refine ⟨fun j h0 h1 => ?_, by simp [f_d], by simp [f_d]⟩
    have a := f_o_inL ok h0 h1
    have b := ok.2 j h0 h1
    simp only [f_d]
    omega
  | k + 1, hk => by
    obtain ⟨a, b, d⟩ := f_d_inL ok k (by omega)
    have o := f_o_inL ok (j := (k : Int)) (by omega) (by omega)
    have z := ok.2 (k : Int) (by omega) (by omega)
    simp only [f_d]
    by_cases hu : u k = -1
    · rw [if_pos hu]
      exact ⟨a, by simp only; omega, by simp only; omega⟩
    · rw [if_neg hu]
      have hu2 : 0 ≤ u k ∧ u k < n := by omega
      have a2 := a (u k) hu2.1 hu2.2
      refine ⟨fun j h0 h1 => ?_, by simp only; omega, by simp only; omega⟩
      have a1 := a j h0 h1
      simp only
      split
      · rename_i e; subst e; omega
      · exact a1
theorem f_d_0L {n : Nat} {u c h w l : Int → Int} (ok : f_okL n u c h w l) (hz : ∀ j : Int, 0 ≤ j → j < n → f_o w h l j = 0) : ∀ k : Nat, k ≤ n → (∀ j : Int, 0 ≤ j → j < n → (f_d u c (f_o w h l) l k).1 j = l j) ∧ (f_d u c (f_o w h l) l k).2 = 0
  | 0, _ => ⟨fun j h0 h1 => by simp only [f_d]; rw [hz j h0 h1]; omega, rfl⟩
  | k + 1, hk => by
    obtain ⟨a, b⟩ := f_d_0L ok hz k (by omega)
    have o := hz (k : Int) (by omega) (by omega)
    have z := ok.2 (k : Int) (by omega) (by omega)
    simp only [f_d]
    by_cases hu : u k = -1
    · rw [if_pos hu]
      exact ⟨a, by simp only; omega⟩
    · rw [if_neg hu]
      have hu2 : 0 ≤ u k ∧ u k < n := by omega
      have a2 := a (u k) hu2.1 hu2.2
      have z2 := ok.2 (u k) hu2.1 hu2.2
      refine ⟨fun j h0 h1 => ?_, by simp only; omega⟩
      have a1 := a j h0 h1
      simp only
      split
      · rename_i e; subst e; omega
      · exact a1
theorem sp_goOnL {b : Int} {mem : qm} (n : Nat) (hn : mem 188 0 = n) (ok : f_okL n (mem 194) (mem 189) (mem 209) (mem 208) (mem 207)) :
    q_Ev yX12_goOn cX12_goOn 5 (some .int) 1 0 0 [(2, 188)] (q_sh0, q_rb b, mem) (qK (q_rb b) (fun r m =>
      r = (f_d (mem 194) (mem 189) (f_o (mem 208) (mem 209) (mem 207)) (mem 207) n).2 ∧
      (∀ i : Int, 0 ≤ i → i < n → m 207 i = (f_d (mem 194) (mem 189) (f_o (mem 208) (mem 209) (mem 207)) (mem 207) n).1 i ∧ m 208 i = max 0 (mem 208 i - 1)) ∧ q_fx f_X mem m)) := by
  have h9 := ok.1
  suffices hs : ∀ Q : Int → qm → Prop, (∀ r m, (r = (f_d (mem 194) (mem 189) (f_o (mem 208) (mem 209) (mem 207)) (mem 207) n).2 ∧ (∀ i : Int, 0 ≤ i → i < n → m 207 i = (f_d (mem 194) (mem 189) (f_o (mem 208) (mem 209) (mem 207)) (mem 207) n).1 i ∧ m 208 i = max 0 (mem 208 i - 1)) ∧ q_fx f_X mem m) → Q r m) → q_Ev yX12_goOn cX12_goOn 5 (some .int) 1 0 0 [(2, 188)] (q_sh0, q_rb b, mem) (qK (q_rb b) Q) from hs _ (fun _ _ h => h)
  intro Q hQ
  refine q_enter (by decide +kernel) (by simp) (Nat.le_of_ble_eq_true rfl) ?_
  refine bkX12_goOn_0 ?_
  -- what goes out
  refine q_for (A := fun i m => q_At yX12_goOn cX12_goOn 5 (some .int) 1 0 0 _ 7 [(2, 188), (0, i), (4, 0), (4, 0), (4, 0)] [] (q_sh0, q_rb b, m)) (fun i m => 0 ≤ i ∧ i ≤ n ∧ q_fx f_X mem m ∧ (0 ≤ m 188 36 ∧ m 188 36 ≤ 9 * i) ∧ (∀ j : Int, 0 ≤ j → j < i → m 202 j = f_o (mem 208) (mem 209) (mem 207) j ∧ m 207 j = mem 207 j - f_o (mem 208) (mem 209) (mem 207) j) ∧ (∀ j : Int, i ≤ j → m 207 j = mem 207 j) ∧ ∀ j : Int, m 208 j = mem 208 j) n ?_ ?_ 0 _ ⟨by omega, by omega, q_fx.rf.up (by decide), ⟨by rw [q_up_s]; omega, by rw [q_up_s]; omega⟩, fun j a1 a2 => absurd a2 (by omega), fun j _ => q_up_c (by decide), fun j => q_up_c (by decide)⟩
  · rintro i m hi ⟨h0, hin, hf, hg, hm, hm2, hm3⟩
    have hnm : m 188 0 = n := (hf 188 0 (by decide)).trans hn
    have hin2 : i = n := by omega
    subst hin2
    have dead : ∀ {p : Prop}, (n : Int) < m 188 0 → p := fun z => absurd z (by omega)
    refine bkX12_goOn_7 (fun _ => ?_) (fun z => dead z) (fun z => dead z) (fun z => dead z) (fun z => dead z) (fun z => dead z)
    -- what comes down
    refine q_for1 (A := fun i (x : Int) m => q_At yX12_goOn cX12_goOn 5 (some .int) 1 0 0 _ 89 [(2, 188), (0, x), (0, i), (4, 0), (4, 0)] [] (q_sh0, q_rb b, m)) (fun i x m => ∃ v : Nat, i = v ∧ v ≤ n ∧ q_fx f_X mem m ∧ x = (f_d (mem 194) (mem 189) (f_o (mem 208) (mem 209) (mem 207)) (mem 207) v).2 ∧ (∀ j : Int, 0 ≤ j → j < n → m 202 j = f_o (mem 208) (mem 209) (mem 207) j ∧ m 207 j = (f_d (mem 194) (mem 189) (f_o (mem 208) (mem 209) (mem 207)) (mem 207) v).1 j) ∧ ∀ j : Int, m 208 j = mem 208 j) n ?_ ?_ 0 0 m ⟨0, rfl, by omega, hf, rfl, hm, hm3⟩
    · rintro i x m hi ⟨v, rfl, hv, hf, hx, hm, hm3⟩
      have hnm : m 188 0 = n := (hf 188 0 (by decide)).trans hn
      have hvn : v = n := by omega
      subst hvn
      have dead : ∀ {p : Prop}, (v : Int) < m 188 0 → p := fun z => absurd z (by omega)
      refine bkX12_goOn_89 (fun _ => ?_) (fun z => dead z) (fun z => dead z) (fun z => dead z) (fun z => dead z) (fun z => dead z) (fun z => dead z) (fun z => dead z) (fun z => dead z)
      -- the wax
      refine q_for (A := fun i m => q_At yX12_goOn cX12_goOn 5 (some .int) 1 0 0 _ 173 [(2, 188), (0, x), (0, i), (4, 0), (4, 0)] [] (q_sh0, q_rb b, m)) (fun i m => 0 ≤ i ∧ q_fx f_X mem m ∧ (∀ j : Int, 0 ≤ j → j < v → m 207 j = (f_d (mem 194) (mem 189) (f_o (mem 208) (mem 209) (mem 207)) (mem 207) v).1 j) ∧ (∀ j : Int, 0 ≤ j → j < i → m 208 j = max 0 (mem 208 j - 1)) ∧ ∀ j : Int, i ≤ j → m 208 j = mem 208 j) v ?_ ?_ 0 m ⟨by omega, hf, fun j a1 a2 => (hm j a1 a2).2, fun j a1 a2 => absurd a2 (by omega), fun j _ => hm3 j⟩
      · rintro i m hi ⟨h0, hf, hm, hw, hw2⟩
        have hnm : m 188 0 = v := (hf 188 0 (by decide)).trans hn
        exact bkX12_goOn_173 (fun _ => hQ _ _ ⟨hx, fun j a1 a2 => ⟨hm j a1 a2, hw j a1 (by omega)⟩, hf⟩) (fun z => absurd z (by omega)) (fun z => absurd z (by omega))
      · rintro i m hi ⟨h0, hf, hm, hw, hw2⟩ ih
        have hnm : m 188 0 = v := (hf 188 0 (by decide)).trans hn
        have e := hw2 i (by omega)
        have okv := ok.2 i h0 (by omega)
        refine bkX12_goOn_173 (fun z => absurd z (by omega)) (fun _ => ⟨by omega, q_in_of (by omega) (by omega), q_in_of (by omega) (by omega)⟩) (fun _ => ?_)
        refine ih _ ⟨by omega, hf.up (by simp [f_X]), fun j a1 a2 => ?_, fun j a1 a2 => ?_, fun j a1 => ?_⟩
        · rw [q_up_c (by decide)]; exact hm j a1 a2
        · by_cases hj : j = i
          · subst hj; rw [q_up_s, e]
          · rw [q_up_i hj]; exact hw j a1 (by omega)
        · rw [q_up_i (by omega)]; exact hw2 j (by omega)
    · rintro i x m hi ⟨v, rfl, hv, hf, hx, hm, hm3⟩ ih
      have hnm : m 188 0 = n := (hf 188 0 (by decide)).trans hn
      have hvv := hm (v : Int) (by omega) (by omega)
      have okv := ok.2 (v : Int) (by omega) (by omega)
      have ov := f_o_inL ok (j := (v : Int)) (by omega) (by omega)
      have dv := f_d_inL ok v hv
      have m194 : m 194 v = mem 194 v := hf 194 v (by simp [f_X])
      have hto : m 194 v ≠ -1 → (0 ≤ mem 194 v ∧ mem 194 v < n) ∧ m 207 (m 194 v) = (f_d (mem 194) (mem 189) (f_o (mem 208) (mem 209) (mem 207)) (mem 207) v).1 (mem 194 v) ∧ m 189 (m 194 v) = mem 189 (mem 194 v) ∧ 0 ≤ (f_d (mem 194) (mem 189) (f_o (mem 208) (mem 209) (mem 207)) (mem 207) v).1 (mem 194 v) ∧ (f_d (mem 194) (mem 189) (f_o (mem 208) (mem 209) (mem 207)) (mem 207) v).1 (mem 194 v) ≤ mem 189 (mem 194 v) ∧ mem 189 (mem 194 v) ≤ 60 := by
        intro z
        rw [m194] at z ⊢
        have hu : 0 ≤ mem 194 v ∧ mem 194 v < n := by omega
        have d2 := dv.1 _ hu.1 hu.2
        have c2 := ok.2 _ hu.1 hu.2
        exact ⟨hu, (hm _ hu.1 hu.2).2, hf 189 _ (by simp), d2.1, d2.2, c2.2.2.1⟩
      have hxb : 0 ≤ x ∧ x ≤ 81 := by rw [hx]; omega
      refine bkX12_goOn_89 (fun z => absurd z (by omega)) (fun _ => by omega) (fun _ z => ?_) (fun _ z z2 => ?_) (fun _ z z2 => ?_) (fun _ z z2 => ?_) (fun _ z z2 => ?_) (fun _ z => ?_) (fun _ z => ?_)
      · have t := hto z; exact ⟨by omega, q_in_of (by omega) (by omega)⟩
      · have t := hto z; exact ⟨q_in_of (by omega) (by omega), q_in_of (by omega) (by omega), q_in_of (by omega) (by omega)⟩
      · have t := hto z
        refine ih _ _ ⟨v + 1, by omega, by omega, hf, ?_, fun j a1 a2 => ⟨(hm j a1 a2).1, ?_⟩, hm3⟩
        · simp only [f_d]; rw [if_neg (by rw [← m194]; exact z), hx, t.2.1, t.2.2.1, hvv.1]
        · simp only [f_d]; rw [if_neg (by rw [← m194]; exact z), (hm j a1 a2).2]; simp only
          split
          · rename_i e; subst e
            rw [t.2.1, t.2.2.1, hvv.1] at z2
            omega
          · rfl
      · have t := hto z; exact ⟨q_in_of (by omega) (by omega), q_in_of (by omega) (by omega), q_in_of (by omega) (by omega), q_in_of (by omega) (by omega)⟩
      · have t := hto z
        refine ih _ _ ⟨v + 1, by omega, by omega, hf.up (by simp [f_X]), ?_, fun j a1 a2 => ⟨?_, ?_⟩, fun j => ?_⟩
        · simp only [f_d]; rw [if_neg (by rw [← m194]; exact z), hx, t.2.1, t.2.2.1, hvv.1]
        · rw [q_up_c (by decide)]; exact (hm j a1 a2).1
        · simp only [f_d]; rw [if_neg (by rw [← m194]; exact z)]; simp only
          by_cases hj : j = mem 194 v
          · subst hj; rw [m194, q_up_s, if_pos rfl, ← m194, t.2.1, t.2.2.1, hvv.1, m194]
          · rw [q_up_i (by rw [m194]; exact hj), if_neg hj]; exact (hm j a1 a2).2
        · rw [q_up_c (by decide)]; exact hm3 j
      · exact ⟨q_in_of (by omega) (by omega), q_in_of (by omega) (by omega), q_in_of (by omega) (by omega)⟩
      · refine ih _ _ ⟨v + 1, by omega, by omega, hf, ?_, fun j a1 a2 => ⟨(hm j a1 a2).1, ?_⟩, hm3⟩
        · simp only [f_d]; rw [if_pos (by rw [← m194]; exact z), hx, hvv.1]; simp only; omega
        · simp only [f_d]; rw [if_pos (by rw [← m194]; exact z)]; exact (hm j a1 a2).2
  · rintro i m hi ⟨h0, hin, hf, hg, hm, hm2, hm3⟩ ih
    have hnm : m 188 0 = n := (hf 188 0 (by decide)).trans hn
    have okv := ok.2 i h0 (by omega)
    have ov := f_o_inL ok (j := i) h0 (by omega)
    have e7 := hm2 i (by omega)
    have e8 := hm3 i
    have e9 : m 209 i = mem 209 i := hf 209 i (by simp)
    have step : ∀ (x g : Int) (m' : qm), x = f_o (mem 208) (mem 209) (mem 207) i → (∀ c j, m' c j = if c = 188 ∧ j = 36 then g else if c = 207 ∧ j = i then mem 207 i - x else if c = 202 ∧ j = i then x else m c j) → g = m 188 36 + x → q_fx f_X mem m' → q_At yX12_goOn cX12_goOn 5 (some .int) 1 0 0 (qK (q_rb b) Q) 7 [(2, 188), (0, i + 1), (4, 0), (4, 0), (4, 0)] [] (q_sh0, q_rb b, m') := by
      intro x g m' hx hm' hgx hf'
      refine ih m' ⟨by omega, by omega, hf', ?_, fun j a1 a2 => ?_, fun j a1 => ?_, fun j => ?_⟩
      · rw [hm', if_pos ⟨rfl, rfl⟩]; omega
      · rw [hm', hm']
        simp only [Int.reduceEq, false_and, true_and, ite_false]
        by_cases hj : j = i
        · subst hj; simp only [ite_true]; rw [hx]; exact ⟨rfl, rfl⟩
        · simp only [hj, ite_false]; exact hm j a1 (by omega)
      · rw [hm']
        simp only [Int.reduceEq, false_and, true_and, ite_false]
        rw [if_neg (by omega)]; exact hm2 j (by omega)
      · rw [hm']
        simp only [Int.reduceEq, false_and, ite_false]
        exact hm3 j
    refine bkX12_goOn_7 (fun z => absurd z (by omega)) (fun _ => by omega) (fun _ z => ⟨q_in_of (by omega) (by omega), q_in_of (by omega) (by omega), q_in_of (by omega) (by omega)⟩) (fun _ z => ?_) (fun _ z => ⟨q_in_of (by omega) (by omega), q_in_of (by omega) (by omega), q_in_of (by omega) (by omega)⟩) (fun _ z => ?_)
    · have hx : min (m 209 i) (m 207 i) = f_o (mem 208) (mem 209) (mem 207) i := by unfold f_o; rw [if_neg (by omega), e9, e7]
      refine step _ _ _ hx (fun c j => ?_) rfl (((hf.up (by simp [f_X])).up (by simp [f_X])).up (by decide))
      unfold q_up; rw [e7]
    · have hx : 0 = f_o (mem 208) (mem 209) (mem 207) i := by unfold f_o; rw [if_pos (by omega)]
      refine step 0 _ _ hx (fun c j => ?_) rfl (((hf.up (by simp [f_X])).up (by simp [f_X])).up (by decide))
      unfold q_up; rw [e7]
def f_OKL (n : Nat) (u c h : Int → Int) (x : f_S) : Prop := f_okL n u c h x.2.1 x.1
theorem f_OKL.en {n : Nat} {u u' c c' h h' : Int → Int} {x y : f_S} (ok : f_OKL n u c h x) (hu : f_en n u u') (hc : f_en n c c') (hh : f_en n h h') (e : f_eq n x y) : f_OKL n u' c' h' y := by
  refine ⟨ok.1, fun j a b => ?_⟩
  have := ok.2 j a b
  rw [← hu j a b, ← hc j a b, ← hh j a b, ← (e.1 j a b).1, ← (e.1 j a b).2]
  exact this
theorem f_b_enL {n : Nat} {u u' c c' h h' : Int → Int} {x y : f_S} (ok : f_OKL n u c h x) (hu : f_en n u u') (hc : f_en n c c') (hh : f_en n h h') (e : f_eq n x y) : f_eq n (f_b n u c h x) (f_b n u' c' h' y) := by
  have el : f_en n x.1 y.1 := fun j a b => (e.1 j a b).1
  have ew : f_en n x.2.1 y.2.1 := fun j a b => (e.1 j a b).2
  obtain ⟨a, b⟩ := f_d_en hu hc (f_o_en ew hh el) el (fun j a b => (ok.2 j a b).1) n (Nat.le_refl n)
  refine ⟨fun j h0 h1 => ⟨a j h0 h1, ?_⟩, ?_⟩
  · show max 0 (x.2.1 j - 1) = max 0 (y.2.1 j - 1)
    rw [ew j h0 h1]
  · show x.2.2 + _ = y.2.2 + _
    rw [e.2, b]
theorem f_OKL.b {n : Nat} {u c h : Int → Int} {x : f_S} (ok : f_OKL n u c h x) : f_OKL n u c h (f_b n u c h x) := by
  refine ⟨ok.1, fun j a b => ?_⟩
  have z := ok.2 j a b
  have d := (f_d_inL ok n (Nat.le_refl n)).1 j a b
  show (u j = -1 ∨ (0 ≤ u j ∧ u j < n)) ∧ 0 ≤ c j ∧ c j ≤ 60 ∧ 0 ≤ h j ∧ h j ≤ 9 ∧ 0 ≤ max 0 (x.2.1 j - 1) ∧ max 0 (x.2.1 j - 1) ≤ 999 ∧ _ ∧ _
  exact ⟨z.1, z.2.1, z.2.2.1, z.2.2.2.1, z.2.2.2.2.1, by omega, by omega, d.1, d.2⟩
theorem f_OKL.it {n : Nat} {u c h : Int → Int} {x : f_S} (ok : f_OKL n u c h x) : ∀ k : Nat, f_OKL n u c h (f_it n u c h k x)
  | 0 => ok
  | k + 1 => (f_OKL.it ok k).b
theorem f_it_enL {n : Nat} {u u' c c' h h' : Int → Int} {x y : f_S} (ok : f_OKL n u c h x) (hu : f_en n u u') (hc : f_en n c c') (hh : f_en n h h') (e : f_eq n x y) : ∀ k : Nat, f_eq n (f_it n u c h k x) (f_it n u' c' h' k y)
  | 0 => e
  | k + 1 => f_b_enL (ok.it k) hu hc hh (f_it_enL ok hu hc hh e k)
theorem f_it_lostL {n : Nat} {u c h : Int → Int} {x : f_S} (ok : f_OKL n u c h x) : ∀ k : Nat, x.2.2 ≤ (f_it n u c h k x).2.2 ∧ (f_it n u c h k x).2.2 ≤ x.2.2 + 81 * k
  | 0 => ⟨by simp only [f_it]; omega, by simp only [f_it]; omega⟩
  | k + 1 => by
    have a := f_it_lostL ok k
    have d := f_d_inL (ok.it k) n (Nat.le_refl n)
    have h9 := ok.1
    simp only [f_it, f_b]
    omega
def f_mokL (n : Nat) (m : qm) : Prop := m 188 0 = n ∧ f_OKL n (m 194) (m 189) (m 209) (f_M m 0)
theorem sp_goOnL' {b : Int} {mem : qm} (n : Nat) (wf : f_mokL n mem) :
    q_Ev yX12_goOn cX12_goOn 5 (some .int) 1 0 0 [(2, 188)] (q_sh0, q_rb b, mem) (qK (q_rb b) (fun r m => (∀ x, f_eq n (f_M m (x + r)) (f_b n (mem 194) (mem 189) (mem 209) (f_M mem x))) ∧ 0 ≤ r ∧ r ≤ 81 ∧ f_mokL n m ∧ q_fx f_X mem m)) := by
  refine (sp_goOnL n wf.1 wf.2).mono ?_
  rintro r σ ⟨m, rfl, h1, h2, hf⟩
  have e : ∀ x, f_eq n (f_M m (x + r)) (f_b n (mem 194) (mem 189) (mem 209) (f_M mem x)) := fun x => ⟨fun j a b => h2 j a b, by show x + r = x + _; rw [h1]; rfl⟩
  have e1 : m 194 = mem 194 := funext (fun i => hf 194 i (by simp [f_X]))
  have e2 : m 189 = mem 189 := funext (fun i => hf 189 i (by simp [f_X]))
  have e3 : m 209 = mem 209 := funext (fun i => hf 209 i (by simp [f_X]))
  have d := f_d_inL wf.2 n (Nat.le_refl n)
  have h9 := wf.2.1
  have d1 : 0 ≤ (f_d (mem 194) (mem 189) (f_o (mem 208) (mem 209) (mem 207)) (mem 207) n).2 ∧ (f_d (mem 194) (mem 189) (f_o (mem 208) (mem 209) (mem 207)) (mem 207) n).2 ≤ 9 * n := d.2
  refine ⟨m, rfl, e, by omega, by omega, ⟨(hf 188 0 (by decide)).trans wf.1, ?_⟩, hf⟩
  rw [e1, e2, e3]
  have := wf.2.b.en (fun _ _ _ => rfl) (fun _ _ _ => rfl) (fun _ _ _ => rfl) (e 0).sy
  exact this
theorem sp_goOnNL {b : Int} {mem : qm} (n k : Nat) (wf : f_mokL n mem) (hk : k ≤ 10000) :
    q_Ev yX12_goOn_ cX12_goOn_ 4 (some .int) 2 0 0 [(2, 188), (0, (k : Int))] (q_sh0, q_rb b, mem) (qK (q_rb b) (fun r m => f_eq n (f_M m r) (f_it n (mem 194) (mem 189) (mem 209) k (f_M mem 0)) ∧ f_mokL n m ∧ q_fx f_X mem m)) := by
  refine q_enter (by decide +kernel) (by simp) (Nat.le_of_ble_eq_true rfl) ?_
  refine bkX12_goOn__0 ?_
  refine q_for1 (A := fun i (x : Int) m => q_At yX12_goOn_ cX12_goOn_ 4 (some .int) 2 0 0 _ 4 [(2, 188), (0, (k : Int)), (0, x), (0, i)] [] (q_sh0, q_rb b, m)) (fun i x m => ∃ v : Nat, i = v ∧ v ≤ k ∧ f_eq n (f_M m x) (f_it n (mem 194) (mem 189) (mem 209) v (f_M mem 0)) ∧ f_mokL n m ∧ q_fx f_X mem m) k ?_ ?_ 0 0 mem ⟨0, rfl, by omega, f_eq.rf, wf, q_fx.rf⟩
  · rintro i x m hi ⟨v, rfl, hv, he, hw, hf⟩
    have : v = k := by omega
    subst this
    exact bkX12_goOn__4 (fun _ => ⟨he, hw, hf⟩) (P2 := fun _ _ => True) (fun z => absurd z (by omega)) (fun z => absurd z (by omega)) (fun z => absurd z (by omega))
  · rintro i x m hi ⟨v, rfl, hv, he, hw, hf⟩ ih
    have lo := f_it_lostL wf.2 v
    have lo2 : x = (f_it n (mem 194) (mem 189) (mem 209) v (f_M mem 0)).2.2 := he.2
    have lo3 : (f_M mem 0).2.2 = 0 := rfl
    have e1 : m 194 = mem 194 := funext (fun i => hf 194 i (by simp [f_X]))
    have e2 : m 189 = mem 189 := funext (fun i => hf 189 i (by simp [f_X]))
    have e3 : m 209 = mem 209 := funext (fun i => hf 209 i (by simp [f_X]))
    refine bkX12_goOn__4 (fun z => absurd z (by omega)) (fun _ => sp_goOnL' n hw) (fun _ r m' h' _ => ?_) (fun _ r m' h' _ => ?_)
    · obtain ⟨-, g2, g3, -⟩ := h'
      exact ⟨q_in_of (by omega) (by omega), q_in_of (by omega) (by omega)⟩
    · obtain ⟨g1, -, -, g4, g5⟩ := h'
      refine ih _ m' ⟨v + 1, by omega, by omega, ?_, g4, hf.tr g5⟩
      have g1 := g1 x
      rw [e1, e2, e3] at g1
      refine g1.tr (f_b_enL ?_ (fun _ _ _ => rfl) (fun _ _ _ => rfl) (fun _ _ _ => rfl) he)
      exact (wf.2.it v).en (fun _ _ _ => rfl) (fun _ _ _ => rfl) (fun _ _ _ => rfl) he.sy
