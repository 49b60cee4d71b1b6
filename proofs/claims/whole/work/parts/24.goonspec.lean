/-! ===== loops that count up ===== -/
theorem q_for {A : Int → qm → Prop} (I : Int → qm → Prop) (n : Int) (hx : ∀ i m, n ≤ i → I i m → A i m) (hs : ∀ i m, i < n → I i m → (∀ m', I (i + 1) m' → A (i + 1) m') → A i m) : ∀ i m, I i m → A i m := by
  have key : ∀ (k : Nat) i m, (n - i).toNat = k → I i m → A i m := by
    intro k
    induction k with
    | zero => intro i m hk hi; exact hx i m (by omega) hi
    | succ k ih => intro i m hk hi; exact hs i m (by omega) hi (fun m' h' => ih (i + 1) m' (by omega) h')
  intro i m hi
  exact key _ i m rfl hi
theorem q_for1 {α : Type} {A : Int → α → qm → Prop} (I : Int → α → qm → Prop) (n : Int) (hx : ∀ i x m, n ≤ i → I i x m → A i x m) (hs : ∀ i x m, i < n → I i x m → (∀ x' m', I (i + 1) x' m' → A (i + 1) x' m') → A i x m) : ∀ i x m, I i x m → A i x m := by
  have key : ∀ (k : Nat) i x m, (n - i).toNat = k → I i x m → A i x m := by
    intro k
    induction k with
    | zero => intro i x m hk hi; exact hx i x m (by omega) hi
    | succ k ih => intro i x m hk hi; exact hs i x m (by omega) hi (fun x' m' h' => ih (i + 1) x' m' (by omega) h')
  intro i x m hi
  exact key _ i x m rfl hi
/-- the numbers are as before but for these places -/
def q_fx (X : Int → Int → Prop) (m m' : qm) : Prop := ∀ c i, ¬ X c i → m' c i = m c i
theorem q_fx.rf {X : Int → Int → Prop} {m : qm} : q_fx X m m := fun _ _ _ => rfl
theorem q_fx.up {X : Int → Int → Prop} {m m' : qm} (h : q_fx X m m') {c i v : Int} (hc : X c i) : q_fx X m (q_up m' c i v) := fun c' i' h' => by
  unfold q_up
  rw [if_neg (fun e => h' (by rw [e.1, e.2]; exact hc))]
  exact h c' i' h'
theorem q_fx.tr {X : Int → Int → Prop} {m m' m'' : qm} (h : q_fx X m m') (h2 : q_fx X m' m'') : q_fx X m m'' := fun c i hc => (h2 c i hc).trans (h c i hc)
theorem q_fx.mono {X Y : Int → Int → Prop} {m m' : qm} (h : q_fx X m m') (hs : ∀ c i, X c i → Y c i) : q_fx Y m m' := fun c i hc => h c i (fun z => hc (hs c i z))
theorem q_fr.fx {cs : List Int} {X : Int → Int → Prop} {m m' : qm} (h : q_fr cs m m') (hs : ∀ c, c ∈ cs → ∀ i, X c i) : q_fx X m m' := fun c i hc => h c (fun z => hc (hs c z i)) i
/-! the reference's begin() and goOn() -/
theorem sp_begin {b : Int} {mem : qm} (n : Nat) (hn : mem 188 0 = n) (h9 : n ≤ 9) : q_Ev yX12_begin_ cX12_begin_ 2 none 1 0 0 [(2, 188)] (q_sh0, q_rb b, mem) (qK (q_rb b) (fun _ m => (∀ i : Int, 0 ≤ i → i < n → m 207 i = mem 190 i ∧ m 208 i = mem 195 i ∧ m 209 i = mem 191 i) ∧ q_fr [207, 208, 209] mem m)) := by
  refine q_enter (by decide +kernel) (by simp) (Nat.le_of_ble_eq_true rfl) ?_
  refine bkX12_begin__0 ?_
  refine q_for (A := fun i m => q_At yX12_begin_ cX12_begin_ 2 none 1 0 0 _ 2 [(2, 188), (0, i)] [] (q_sh0, q_rb b, m)) (fun i m => 0 ≤ i ∧ q_fr [207, 208, 209] mem m ∧ ∀ j : Int, 0 ≤ j → j < i → m 207 j = mem 190 j ∧ m 208 j = mem 195 j ∧ m 209 j = mem 191 j) n ?_ ?_ 0 mem ⟨by omega, q_fr.rf, fun j a1 a2 => absurd a2 (by omega)⟩
  · rintro i m hi ⟨h0, hf, hm⟩
    have hnm : m 188 0 = n := (hf 188 (by decide) 0).trans hn
    exact bkX12_begin__2 (fun _ => ⟨fun j a1 a2 => hm j a1 (by omega), hf⟩) (fun z => absurd z (by omega)) (fun z => absurd z (by omega))
  · rintro i m hi ⟨h0, hf, hm⟩ ih
    have hnm : m 188 0 = n := (hf 188 (by decide) 0).trans hn
    refine bkX12_begin__2 (fun z => absurd z (by omega)) (fun _ => ⟨by omega, q_in_of (by omega) (by omega)⟩) (fun _ => ?_)
    refine ih _ ⟨by omega, ((hf.up (by decide)).up (by decide)).up (by decide), fun j a1 a2 => ?_⟩
    have e1 := hf 190 (by decide) i
    have e2 := hf 195 (by decide) i
    have e3 := hf 191 (by decide) i
    simp only [q_up, Int.reduceEq, false_and, true_and, ite_false]
    by_cases hj : j = i
    · subst hj; simp only [ite_true]; exact ⟨e1, e2, e3⟩
    · simp only [hj, ite_false]; exact hm j a1 (by omega)
abbrev f_X (c i : Int) : Prop := c = 202 ∨ c = 207 ∨ c = 208 ∨ (c = 188 ∧ i = 36)
theorem sp_goOn {b : Int} {mem : qm} (n : Nat) (hn : mem 188 0 = n) (ok : f_ok n (mem 194) (mem 189) (mem 209) (mem 208) (mem 207)) :
    q_Ev yX12_goOn cX12_goOn 5 (some .int) 1 0 0 [(2, 188)] (q_sh0, q_rb b, mem) (qK (q_rb b) (fun r m =>
      r = (f_d (mem 194) (mem 189) (f_o (mem 208) (mem 209) (mem 207)) (mem 207) n).2 ∧
      (∀ i : Int, 0 ≤ i → i < n → m 207 i = (f_d (mem 194) (mem 189) (f_o (mem 208) (mem 209) (mem 207)) (mem 207) n).1 i ∧ m 208 i = max 0 (mem 208 i - 1)) ∧ q_fx f_X mem m)) := by
  have h9 := ok.1
  suffices hs : ∀ Q : Int → qm → Prop, (∀ r m, (r = (f_d (mem 194) (mem 189) (f_o (mem 208) (mem 209) (mem 207)) (mem 207) n).2 ∧ (∀ i : Int, 0 ≤ i → i < n → m 207 i = (f_d (mem 194) (mem 189) (f_o (mem 208) (mem 209) (mem 207)) (mem 207) n).1 i ∧ m 208 i = max 0 (mem 208 i - 1)) ∧ q_fx f_X mem m) → Q r m) → q_Ev yX12_goOn cX12_goOn 5 (some .int) 1 0 0 [(2, 188)] (q_sh0, q_rb b, mem) (qK (q_rb b) Q) from hs _ (fun _ _ h => h)
  intro Q hQ
  refine q_enter (by decide +kernel) (by simp) (Nat.le_of_ble_eq_true rfl) ?_
  refine bkX12_goOn_0 ?_
  -- what goes out
  refine q_for (A := fun i m => q_At yX12_goOn cX12_goOn 5 (some .int) 1 0 0 _ 7 [(2, 188), (0, i), (4, 0), (4, 0), (4, 0)] [] (q_sh0, q_rb b, m)) (fun i m => 0 ≤ i ∧ i ≤ n ∧ q_fx f_X mem m ∧ (0 ≤ m 188 36 ∧ m 188 36 ≤ 9 * i) ∧ (∀ j : Int, 0 ≤ j → j < i → m 202 j = f_o (mem 208) (mem 209) (mem 207) j ∧ m 207 j = mem 207 j - f_o (mem 208) (mem 209) (mem 207) j) ∧ (∀ j : Int, i ≤ j → m 207 j = mem 207 j) ∧ ∀ j : Int, m 208 j = mem 208 j) n ?_ ?_ 0 _ ⟨by omega, by omega, q_fx.rf.up (by decide), ⟨by rw [q_up_s]; omega, by rw [q_up_s]; omega⟩, fun j a1 a2 => absurd a2 (by omega), fun j _ => q_up_c (by decide), fun j => q_up_c (by decide)⟩
  · rintro i m hi ⟨h0, hin, hf, hg, hm, hm2, hm3⟩
    have hnm : m 188 0 = n := (hf 188 0 (by decide)).trans hn
    have hin2 : i = n := by omega
    subst hin2
    have dead : ∀ {p : Prop}, (n : Int) < m 188 0 → p := fun z => absurd z (by omega)
    refine bkX12_goOn_7 (fun _ => ?_) (fun z => dead z) (fun z => dead z) (fun z => dead z) (fun z => dead z) (fun z => dead z)
    -- what comes down
    refine q_for1 (A := fun i (x : Int) m => q_At yX12_goOn cX12_goOn 5 (some .int) 1 0 0 _ 89 [(2, 188), (0, x), (0, i), (4, 0), (4, 0)] [] (q_sh0, q_rb b, m)) (fun i x m => ∃ v : Nat, i = v ∧ v ≤ n ∧ q_fx f_X mem m ∧ x = (f_d (mem 194) (mem 189) (f_o (mem 208) (mem 209) (mem 207)) (mem 207) v).2 ∧ (∀ j : Int, 0 ≤ j → j < n → m 202 j = f_o (mem 208) (mem 209) (mem 207) j ∧ m 207 j = (f_d (mem 194) (mem 189) (f_o (mem 208) (mem 209) (mem 207)) (mem 207) v).1 j) ∧ ∀ j : Int, m 208 j = mem 208 j) n ?_ ?_ 0 0 m ⟨0, rfl, by omega, hf, rfl, hm, hm3⟩
    · rintro i x m hi ⟨v, rfl, hv, hf, hx, hm, hm3⟩
      have hnm : m 188 0 = n := (hf 188 0 (by decide)).trans hn
      have hvn : v = n := by omega
      subst hvn
      have dead : ∀ {p : Prop}, (v : Int) < m 188 0 → p := fun z => absurd z (by omega)
      refine bkX12_goOn_89 (fun _ => ?_) (fun z => dead z) (fun z => dead z) (fun z => dead z) (fun z => dead z) (fun z => dead z) (fun z => dead z) (fun z => dead z) (fun z => dead z)
      -- the wax
      refine q_for (A := fun i m => q_At yX12_goOn cX12_goOn 5 (some .int) 1 0 0 _ 173 [(2, 188), (0, x), (0, i), (4, 0), (4, 0)] [] (q_sh0, q_rb b, m)) (fun i m => 0 ≤ i ∧ q_fx f_X mem m ∧ (∀ j : Int, 0 ≤ j → j < v → m 207 j = (f_d (mem 194) (mem 189) (f_o (mem 208) (mem 209) (mem 207)) (mem 207) v).1 j) ∧ (∀ j : Int, 0 ≤ j → j < i → m 208 j = max 0 (mem 208 j - 1)) ∧ ∀ j : Int, i ≤ j → m 208 j = mem 208 j) v ?_ ?_ 0 m ⟨by omega, hf, fun j a1 a2 => (hm j a1 a2).2, fun j a1 a2 => absurd a2 (by omega), fun j _ => hm3 j⟩
      · rintro i m hi ⟨h0, hf, hm, hw, hw2⟩
        have hnm : m 188 0 = v := (hf 188 0 (by decide)).trans hn
        exact bkX12_goOn_173 (fun _ => hQ _ _ ⟨hx, fun j a1 a2 => ⟨hm j a1 a2, hw j a1 (by omega)⟩, hf⟩) (fun z => absurd z (by omega)) (fun z => absurd z (by omega))
      · rintro i m hi ⟨h0, hf, hm, hw, hw2⟩ ih
        have hnm : m 188 0 = v := (hf 188 0 (by decide)).trans hn
        have e := hw2 i (by omega)
        have okv := ok.2 i h0 (by omega)
        refine bkX12_goOn_173 (fun z => absurd z (by omega)) (fun _ => ⟨by omega, q_in_of (by omega) (by omega), q_in_of (by omega) (by omega)⟩) (fun _ => ?_)
        refine ih _ ⟨by omega, hf.up (by simp [f_X]), fun j a1 a2 => ?_, fun j a1 a2 => ?_, fun j a1 => ?_⟩
        · rw [q_up_c (by decide)]; exact hm j a1 a2
        · by_cases hj : j = i
          · subst hj; rw [q_up_s, e]
          · rw [q_up_i hj]; exact hw j a1 (by omega)
        · rw [q_up_i (by omega)]; exact hw2 j (by omega)
    · rintro i x m hi ⟨v, rfl, hv, hf, hx, hm, hm3⟩ ih
      have hnm : m 188 0 = n := (hf 188 0 (by decide)).trans hn
      have hvv := hm (v : Int) (by omega) (by omega)
      have okv := ok.2 (v : Int) (by omega) (by omega)
      have ov := f_o_in ok (j := (v : Int)) (by omega) (by omega)
      have dv := f_d_in ok v hv
      have m194 : m 194 v = mem 194 v := hf 194 v (by simp [f_X])
      have hto : m 194 v ≠ -1 → (0 ≤ mem 194 v ∧ mem 194 v < n) ∧ m 207 (m 194 v) = (f_d (mem 194) (mem 189) (f_o (mem 208) (mem 209) (mem 207)) (mem 207) v).1 (mem 194 v) ∧ m 189 (m 194 v) = mem 189 (mem 194 v) ∧ 0 ≤ (f_d (mem 194) (mem 189) (f_o (mem 208) (mem 209) (mem 207)) (mem 207) v).1 (mem 194 v) ∧ (f_d (mem 194) (mem 189) (f_o (mem 208) (mem 209) (mem 207)) (mem 207) v).1 (mem 194 v) ≤ mem 189 (mem 194 v) ∧ mem 189 (mem 194 v) ≤ 60 := by
        intro z
        rw [m194] at z ⊢
        have hu : 0 ≤ mem 194 v ∧ mem 194 v < n := by omega
        have d2 := dv.1 _ hu.1 hu.2
        have c2 := ok.2 _ hu.1 hu.2
        exact ⟨hu, (hm _ hu.1 hu.2).2, hf 189 _ (by simp), d2.1, d2.2, c2.2.2.1⟩
      have hxb : 0 ≤ x ∧ x ≤ 81 := by rw [hx]; omega
      refine bkX12_goOn_89 (fun z => absurd z (by omega)) (fun _ => by omega) (fun _ z => ?_) (fun _ z z2 => ?_) (fun _ z z2 => ?_) (fun _ z z2 => ?_) (fun _ z z2 => ?_) (fun _ z => ?_) (fun _ z => ?_)
      · have t := hto z; exact ⟨by omega, q_in_of (by omega) (by omega)⟩
      · have t := hto z; exact ⟨q_in_of (by omega) (by omega), q_in_of (by omega) (by omega), q_in_of (by omega) (by omega)⟩
      · have t := hto z
        refine ih _ _ ⟨v + 1, by omega, by omega, hf, ?_, fun j a1 a2 => ⟨(hm j a1 a2).1, ?_⟩, hm3⟩
        · simp only [f_d]; rw [if_neg (by rw [← m194]; exact z), hx, t.2.1, t.2.2.1, hvv.1]
        · simp only [f_d]; rw [if_neg (by rw [← m194]; exact z), (hm j a1 a2).2]; simp only
          split
          · rename_i e; subst e
            rw [t.2.1, t.2.2.1, hvv.1] at z2
            omega
          · rfl
      · have t := hto z; exact ⟨q_in_of (by omega) (by omega), q_in_of (by omega) (by omega), q_in_of (by omega) (by omega), q_in_of (by omega) (by omega)⟩
      · have t := hto z
        refine ih _ _ ⟨v + 1, by omega, by omega, hf.up (by simp [f_X]), ?_, fun j a1 a2 => ⟨?_, ?_⟩, fun j => ?_⟩
        · simp only [f_d]; rw [if_neg (by rw [← m194]; exact z), hx, t.2.1, t.2.2.1, hvv.1]
        · rw [q_up_c (by decide)]; exact (hm j a1 a2).1
        · simp only [f_d]; rw [if_neg (by rw [← m194]; exact z)]; simp only
          by_cases hj : j = mem 194 v
          · subst hj; rw [m194, q_up_s, if_pos rfl, ← m194, t.2.1, t.2.2.1, hvv.1, m194]
          · rw [q_up_i (by rw [m194]; exact hj), if_neg hj]; exact (hm j a1 a2).2
        · rw [q_up_c (by decide)]; exact hm3 j
      · exact ⟨q_in_of (by omega) (by omega), q_in_of (by omega) (by omega), q_in_of (by omega) (by omega)⟩
      · refine ih _ _ ⟨v + 1, by omega, by omega, hf, ?_, fun j a1 a2 => ⟨(hm j a1 a2).1, ?_⟩, hm3⟩
        · simp only [f_d]; rw [if_pos (by rw [← m194]; exact z), hx, hvv.1]; simp only; omega
        · simp only [f_d]; rw [if_pos (by rw [← m194]; exact z)]; exact (hm j a1 a2).2
  · rintro i m hi ⟨h0, hin, hf, hg, hm, hm2, hm3⟩ ih
    have hnm : m 188 0 = n := (hf 188 0 (by decide)).trans hn
    have okv := ok.2 i h0 (by omega)
    have ov := f_o_in ok (j := i) h0 (by omega)
    have e7 := hm2 i (by omega)
    have e8 := hm3 i
    have e9 : m 209 i = mem 209 i := hf 209 i (by simp)
    have step : ∀ (x g : Int) (m' : qm), x = f_o (mem 208) (mem 209) (mem 207) i → (∀ c j, m' c j = if c = 188 ∧ j = 36 then g else if c = 207 ∧ j = i then mem 207 i - x else if c = 202 ∧ j = i then x else m c j) → g = m 188 36 + x → q_fx f_X mem m' → q_At yX12_goOn cX12_goOn 5 (some .int) 1 0 0 (qK (q_rb b) Q) 7 [(2, 188), (0, i + 1), (4, 0), (4, 0), (4, 0)] [] (q_sh0, q_rb b, m') := by
      intro x g m' hx hm' hgx hf'
      refine ih m' ⟨by omega, by omega, hf', ?_, fun j a1 a2 => ?_, fun j a1 => ?_, fun j => ?_⟩
      · rw [hm', if_pos ⟨rfl, rfl⟩]; omega
      · rw [hm', hm']
        simp only [Int.reduceEq, false_and, true_and, ite_false]
        by_cases hj : j = i
        · subst hj; simp only [ite_true]; rw [hx]; exact ⟨rfl, rfl⟩
        · simp only [hj, ite_false]; exact hm j a1 (by omega)
      · rw [hm']
        simp only [Int.reduceEq, false_and, true_and, ite_false]
        rw [if_neg (by omega)]; exact hm2 j (by omega)
      · rw [hm']
        simp only [Int.reduceEq, false_and, ite_false]
        exact hm3 j
    refine bkX12_goOn_7 (fun z => absurd z (by omega)) (fun _ => by omega) (fun _ z => ⟨q_in_of (by omega) (by omega), q_in_of (by omega) (by omega), q_in_of (by omega) (by omega)⟩) (fun _ z => ?_) (fun _ z => ⟨q_in_of (by omega) (by omega), q_in_of (by omega) (by omega), q_in_of (by omega) (by omega)⟩) (fun _ z => ?_)
    · have hx : min (m 209 i) (m 207 i) = f_o (mem 208) (mem 209) (mem 207) i := by unfold f_o; rw [if_neg (by omega), e9, e7]
      refine step _ _ _ hx (fun c j => ?_) rfl (((hf.up (by simp [f_X])).up (by simp [f_X])).up (by decide))
      unfold q_up; rw [e7]
    · have hx : 0 = f_o (mem 208) (mem 209) (mem 207) i := by unfold f_o; rw [if_pos (by omega)]
      refine step 0 _ _ hx (fun c j => ?_) rfl (((hf.up (by simp [f_X])).up (by simp [f_X])).up (by decide))
      unfold q_up; rw [e7]
/-! ===== many bells ===== -/
abbrev f_S : Type := (Int → Int) × (Int → Int) × Int
/-- levels, wax and what is lost, behind one bell -/
def f_b (n : Nat) (u c h : Int → Int) (x : f_S) : f_S := ((f_d u c (f_o x.2.1 h x.1) x.1 n).1, fun j => max 0 (x.2.1 j - 1), x.2.2 + (f_d u c (f_o x.2.1 h x.1) x.1 n).2)
def f_it (n : Nat) (u c h : Int → Int) : Nat → f_S → f_S
  | 0, x => x
  | k + 1, x => f_b n u c h (f_it n u c h k x)
/-- alike for the first n jars -/
def f_eq (n : Nat) (x y : f_S) : Prop := (∀ j : Int, 0 ≤ j → j < n → x.1 j = y.1 j ∧ x.2.1 j = y.2.1 j) ∧ x.2.2 = y.2.2
def f_en (n : Nat) (a b : Int → Int) : Prop := ∀ j : Int, 0 ≤ j → j < n → a j = b j
theorem f_eq.rf {n : Nat} {x : f_S} : f_eq n x x := ⟨fun _ _ _ => ⟨rfl, rfl⟩, rfl⟩
theorem f_eq.sy {n : Nat} {x y : f_S} (h : f_eq n x y) : f_eq n y x := ⟨fun j a b => ⟨(h.1 j a b).1.symm, (h.1 j a b).2.symm⟩, h.2.symm⟩
theorem f_eq.tr {n : Nat} {x y z : f_S} (h : f_eq n x y) (g : f_eq n y z) : f_eq n x z := ⟨fun j a b => ⟨(h.1 j a b).1.trans (g.1 j a b).1, (h.1 j a b).2.trans (g.1 j a b).2⟩, h.2.trans g.2⟩
theorem f_o_en {n : Nat} {w w' h h' l l' : Int → Int} (hw : f_en n w w') (hh : f_en n h h') (hl : f_en n l l') : f_en n (f_o w h l) (f_o w' h' l') := by
  intro j a b
  unfold f_o
  rw [hw j a b, hh j a b, hl j a b]
theorem f_d_en {n : Nat} {u u' c c' o o' l l' : Int → Int} (hu : f_en n u u') (hc : f_en n c c') (ho : f_en n o o') (hl : f_en n l l') (hr : ∀ j : Int, 0 ≤ j → j < n → u j = -1 ∨ (0 ≤ u j ∧ u j < n)) : ∀ k : Nat, k ≤ n → f_en n (f_d u c o l k).1 (f_d u' c' o' l' k).1 ∧ (f_d u c o l k).2 = (f_d u' c' o' l' k).2
  | 0, _ => ⟨fun j a b => by simp only [f_d]; rw [hl j a b, ho j a b], rfl⟩
  | k + 1, hk => by
    obtain ⟨a, b⟩ := f_d_en hu hc ho hl hr k (by omega)
    have e1 := hu k (by omega) (by omega)
    have e2 := ho k (by omega) (by omega)
    simp only [f_d]
    by_cases hz : u k = -1
    · rw [if_pos hz, if_pos (by rw [← e1]; exact hz)]
      exact ⟨a, by simp only; omega⟩
    · rw [if_neg hz, if_neg (by rw [← e1]; exact hz)]
      have hu2 : 0 ≤ u k ∧ u k < n := by have := hr k (by omega) (by omega); omega
      have a2 := a (u k) hu2.1 hu2.2
      have c2 := hc (u k) hu2.1 hu2.2
      refine ⟨fun j h0 h1 => ?_, by simp only; rw [← e1, ← e2, ← a2, ← c2, b]⟩
      simp only
      rw [← e1, ← e2, ← a2, ← c2, a j h0 h1]
/-- all is as it must be, told of a whole state -/
def f_OK (n : Nat) (u c h : Int → Int) (x : f_S) : Prop := f_ok n u c h x.2.1 x.1
theorem f_OK.en {n : Nat} {u u' c c' h h' : Int → Int} {x y : f_S} (ok : f_OK n u c h x) (hu : f_en n u u') (hc : f_en n c c') (hh : f_en n h h') (e : f_eq n x y) : f_OK n u' c' h' y := by
  refine ⟨ok.1, fun j a b => ?_⟩
  have := ok.2 j a b
  rw [← hu j a b, ← hc j a b, ← hh j a b, ← (e.1 j a b).1, ← (e.1 j a b).2]
  exact this
theorem f_b_en {n : Nat} {u u' c c' h h' : Int → Int} {x y : f_S} (ok : f_OK n u c h x) (hu : f_en n u u') (hc : f_en n c c') (hh : f_en n h h') (e : f_eq n x y) : f_eq n (f_b n u c h x) (f_b n u' c' h' y) := by
  have el : f_en n x.1 y.1 := fun j a b => (e.1 j a b).1
  have ew : f_en n x.2.1 y.2.1 := fun j a b => (e.1 j a b).2
  obtain ⟨a, b⟩ := f_d_en hu hc (f_o_en ew hh el) el (fun j a b => (ok.2 j a b).1) n (Nat.le_refl n)
  refine ⟨fun j h0 h1 => ⟨a j h0 h1, ?_⟩, ?_⟩
  · show max 0 (x.2.1 j - 1) = max 0 (y.2.1 j - 1)
    rw [ew j h0 h1]
  · show x.2.2 + _ = y.2.2 + _
    rw [e.2, b]
theorem f_OK.b {n : Nat} {u c h : Int → Int} {x : f_S} (ok : f_OK n u c h x) : f_OK n u c h (f_b n u c h x) := by
  refine ⟨ok.1, fun j a b => ?_⟩
  have z := ok.2 j a b
  have d := (f_d_in ok n (Nat.le_refl n)).1 j a b
  show (u j = -1 ∨ (0 ≤ u j ∧ u j < n)) ∧ 0 ≤ c j ∧ c j ≤ 60 ∧ 0 ≤ h j ∧ h j ≤ 9 ∧ 0 ≤ max 0 (x.2.1 j - 1) ∧ max 0 (x.2.1 j - 1) ≤ 99 ∧ _ ∧ _
  exact ⟨z.1, z.2.1, z.2.2.1, z.2.2.2.1, z.2.2.2.2.1, by omega, by omega, d.1, d.2⟩
theorem f_OK.it {n : Nat} {u c h : Int → Int} {x : f_S} (ok : f_OK n u c h x) : ∀ k : Nat, f_OK n u c h (f_it n u c h k x)
  | 0 => ok
  | k + 1 => (f_OK.it ok k).b
theorem f_it_en {n : Nat} {u u' c c' h h' : Int → Int} {x y : f_S} (ok : f_OK n u c h x) (hu : f_en n u u') (hc : f_en n c c') (hh : f_en n h h') (e : f_eq n x y) : ∀ k : Nat, f_eq n (f_it n u c h k x) (f_it n u' c' h' k y)
  | 0 => e
  | k + 1 => f_b_en (ok.it k) hu hc hh (f_it_en ok hu hc hh e k)
theorem f_it_lost {n : Nat} {u c h : Int → Int} {x : f_S} (ok : f_OK n u c h x) : ∀ k : Nat, x.2.2 ≤ (f_it n u c h k x).2.2 ∧ (f_it n u c h k x).2.2 ≤ x.2.2 + 81 * k
  | 0 => ⟨by simp only [f_it]; omega, by simp only [f_it]; omega⟩
  | k + 1 => by
    have a := f_it_lost ok k
    have d := f_d_in (ok.it k) n (Nat.le_refl n)
    have h9 := ok.1
    simp only [f_it, f_b]
    omega
/-- nothing stirs any more -/
theorem f_still {n : Nat} {u c h : Int → Int} {x : f_S} (ok : f_OK n u c h x) (hs : ¬ f_stir n x.2.1 h x.1) : f_eq n (f_b n u c h x) x := by
  have hz : ∀ j : Int, 0 ≤ j → j < n → f_o x.2.1 h x.1 j = 0 := by
    intro j a1 a2
    have := f_o_in ok a1 a2
    by_cases z : 0 < f_o x.2.1 h x.1 j
    · exact absurd ⟨j, a1, a2, Or.inr z⟩ hs
    · omega
  have d0 := f_d_0 ok hz n (Nat.le_refl _)
  refine ⟨fun j a1 a2 => ⟨d0.1 j a1 a2, ?_⟩, ?_⟩
  · have := ok.2 j a1 a2
    show max 0 (x.2.1 j - 1) = x.2.1 j
    by_cases z : 0 < x.2.1 j
    · exact absurd ⟨j, a1, a2, Or.inl z⟩ hs
    · omega
  · show x.2.2 + _ = x.2.2
    rw [d0.2]; omega
theorem f_stir_en {n : Nat} {w w' h h' l l' : Int → Int} (hw : f_en n w w') (hh : f_en n h h') (hl : f_en n l l') (s : f_stir n w h l) : f_stir n w' h' l' := by
  obtain ⟨j, a, b, d⟩ := s
  refine ⟨j, a, b, ?_⟩
  rw [← hw j a b, ← f_o_en hw hh hl j a b]
  exact d
theorem f_still_it {n : Nat} {u c h : Int → Int} {x : f_S} (ok : f_OK n u c h x) (hs : ¬ f_stir n x.2.1 h x.1) : ∀ k : Nat, f_eq n (f_it n u c h k x) x
  | 0 => f_eq.rf
  | k + 1 => by
    have ih := f_still_it ok hs k
    have hs2 : ¬ f_stir n (f_it n u c h k x).2.1 h (f_it n u c h k x).1 := fun z => hs (f_stir_en (fun j a b => (ih.1 j a b).2) (fun _ _ _ => rfl) (fun j a b => (ih.1 j a b).1) z)
    exact (f_still (ok.it k) hs2).tr ih
theorem f_it_add {n : Nat} {u c h : Int → Int} {x : f_S} (a : Nat) : ∀ k : Nat, f_it n u c h (a + k) x = f_it n u c h k (f_it n u c h a x)
  | 0 => rfl
  | k + 1 => by
    show f_b n u c h (f_it n u c h (a + k) x) = f_b n u c h (f_it n u c h k (f_it n u c h a x))
    rw [f_it_add a k]
