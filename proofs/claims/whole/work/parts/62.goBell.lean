/-! ===== the reference's bell with every drop ===== -/
def w_m (m : qm) (j len : Int) (f : Int → Int) : Prop := m 190 j = len ∧ ∀ k, 0 ≤ k → k < len → m 196 (60 * j + k) = f k
theorem w_m.en {m : qm} {j len : Int} {f g : Int → Int} (h : w_m m j len f) (e : ∀ k, 0 ≤ k → k < len → f k = g k) : w_m m j len g := ⟨h.1, fun k k0 k1 => (h.2 k k0 k1).trans (e k k0 k1)⟩
theorem w_m.fr {m m' : qm} {j len : Int} {f : Int → Int} (h : w_m m j len f) (hl : len ≤ 60) (h1 : m' 190 j = m 190 j) (h2 : ∀ i, 60 * j ≤ i → i < 60 * j + 60 → m' 196 i = m 196 i) : w_m m' j len f := ⟨h1.trans h.1, fun k k0 k1 => (h2 _ (by omega) (by omega)).trans (h.2 k k0 k1)⟩
theorem w_m.fo {m m' : qm} {j len : Int} {f : Int → Int} {X : Int → Int → Prop} (h : w_m m j len f) (hf : q_fx X m m') (hX : ∀ c i, c = 190 ∨ c = 196 → ¬ X c i) : w_m m' j len f := ⟨(hf _ _ (hX _ _ (by omega))).trans h.1, fun k k0 k1 => (hf _ _ (hX _ _ (by omega))).trans (h.2 k k0 k1)⟩
abbrev w_y (j c i : Int) : Prop := (c = 196 ∧ 60 * j ≤ i ∧ i < 60 * j + 60) ∨ (c = 190 ∧ i = j)
theorem w_m.fx {m m' : qm} {j j' len : Int} {f : Int → Int} (h : w_m m j' len f) (hl : len ≤ 60) (hf : q_fx (w_y j) m m') (hne : j' ≠ j) : w_m m' j' len f := h.fr hl (hf _ _ (by simp only [w_y]; omega)) (fun i a b => hf _ _ (by simp only [w_y]; omega))
theorem sp_letGoM {b j v len : Int} {f : Int → Int} {mem : qm} (hj : 0 ≤ j ∧ j < 9) (h : w_m mem j len f) (hv : 0 ≤ v ∧ v ≤ len) (hl : len ≤ 60) : q_Ev yX12_letGo cX12_letGo 4 none 1 0 0 [(2, 188), (0, j), (0, v)] (q_sh0, q_rb b, mem) (qK (q_rb b) (fun _ m => w_m m j (len - v) (fun k => f (k + v)) ∧ q_fx (w_y j) mem m)) := by
  refine q_enter (by decide +kernel) (by simp) (Nat.le_of_ble_eq_true rfl) ?_
  refine bkX12_letGo_0 ?_
  refine q_for (A := fun i m => q_At yX12_letGo cX12_letGo 4 none 1 0 0 _ 2 [(2, 188), (0, j), (0, v), (0, i)] [] (q_sh0, q_rb b, m)) (fun i m => v ≤ i ∧ i ≤ len ∧ m 190 j = len ∧ (∀ k, 0 ≤ k → k < len → m 196 (60 * j + k) = if k < i - v then f (k + v) else f k) ∧ q_fx (w_y j) mem m) len ?_ ?_ v mem ⟨by omega, by omega, h.1, fun k k0 k1 => by rw [if_neg (by omega)]; exact h.2 k k0 k1, q_fx.rf⟩
  · rintro i m hi ⟨i0, i1, g1, g2, g3⟩
    refine bkX12_letGo_2 hj (fun _ => q_in_of (by omega) (by omega)) (fun _ => ⟨⟨by rw [q_up_s, g1], fun k k0 k1 => ?_⟩, g3.up (Or.inr ⟨rfl, rfl⟩)⟩) (fun z => absurd z (by omega)) (fun z => absurd z (by omega))
    rw [q_up_c (by decide), g2 k k0 (by omega), if_pos (by omega)]
  · rintro i m hi ⟨i0, i1, g1, g2, g3⟩ ih
    refine bkX12_letGo_2 hj (fun z => absurd z (by omega)) (fun z => absurd z (by omega)) (fun _ => ⟨q_in_of (by omega) (by omega), q_in_of (by omega) (by omega), q_in_of (by omega) (by omega), by omega, by omega, q_in_of (by omega) (by omega)⟩) (fun _ => ?_)
    refine ih _ ⟨by omega, by omega, by rw [q_up_c (by decide)]; exact g1, fun k k0 k1 => ?_, g3.up (Or.inl ⟨rfl, by omega, by omega⟩)⟩
    by_cases hk : k = i - v
    · rw [show 60 * j + k = 60 * j + i - v by omega, q_up_s, g2 i (by omega) hi, if_neg (show ¬ i < i - v by omega), if_pos (show k < i + 1 - v by omega)]; congr 1; omega
    · rw [q_up_i (by omega), g2 k k0 k1]
      by_cases h2 : k < i - v
      · rw [if_pos h2, if_pos (by omega)]
      · rw [if_neg h2, if_neg (by omega)]
theorem sp_goBell {b : Int} {mem : qm} (n : Nat) (hn : mem 188 0 = n) (ok : f_ok n (mem 194) (mem 189) (mem 191) (mem 195) (mem 190)) (F : Int → Int → Int) (hF : ∀ j : Int, 0 ≤ j → j < n → w_m mem j (mem 190 j) (F j)) (hbe : 0 ≤ mem 188 10 ∧ mem 188 10 ≤ 400000000) (hlo : 0 ≤ mem 188 11 ∧ mem 188 11 ≤ 400000000) :
    q_Ev yX12_goBell cX12_goBell 6 (some .int) 2 0 0 [(2, 188)] (q_sh0, q_rb b, mem) (qK (q_rb b) (fun r m =>
      (∀ j : Int, 0 ≤ j → j < n → w_m m j ((f_d (mem 194) (mem 189) (f_o (mem 195) (mem 191) (mem 190)) (mem 190) n).1 j) (b_f (mem 194) (mem 189) (f_o (mem 195) (mem 191) (mem 190)) (mem 190) F n j) ∧ m 195 j = max 0 (mem 195 j - 1)) ∧
      r = (f_d (mem 194) (mem 189) (f_o (mem 195) (mem 191) (mem 190)) (mem 190) n).2 ∧ m 188 10 = mem 188 10 + 1 ∧ m 188 11 = mem 188 11 + (f_d (mem 194) (mem 189) (f_o (mem 195) (mem 191) (mem 190)) (mem 190) n).2 ∧
      q_fx (fun c i => c = 190 ∨ c = 195 ∨ c = 196 ∨ c = 202 ∨ c = 203 ∨ (c = 188 ∧ (i = 10 ∨ i = 11))) mem m)) := by
  have h9 := ok.1
  generalize hu : mem 194 = u at ok ⊢
  generalize hc : mem 189 = c at ok ⊢
  generalize hh : mem 191 = h at ok ⊢
  generalize hw : mem 195 = w at ok ⊢
  generalize hl : mem 190 = l at ok hF ⊢
  generalize ho : f_o w h l = o
  have hoi : ∀ j : Int, 0 ≤ j → j < n → 0 ≤ o j ∧ o j ≤ l j ∧ o j ≤ 9 := fun j a b => by rw [← ho]; exact f_o_in ok a b
  have hdi := fun k hk => f_d_in ok k hk
  rw [ho] at hdi
  generalize hX : (fun (c i : Int) => c = 190 ∨ c = 195 ∨ c = 196 ∨ c = 202 ∨ c = 203 ∨ (c = 188 ∧ (i = 10 ∨ i = 11))) = X
  have hX' : ∀ c i, X c i ↔ (c = 190 ∨ c = 195 ∨ c = 196 ∨ c = 202 ∨ c = 203 ∨ (c = 188 ∧ (i = 10 ∨ i = 11))) := fun c i => by rw [← hX]
  generalize hQ : (fun (r : Int) (m : qm) => (∀ j : Int, 0 ≤ j → j < n → w_m m j ((f_d u c o l n).1 j) (b_f u c o l F n j) ∧ m 195 j = max 0 (w j - 1)) ∧ r = (f_d u c o l n).2 ∧ m 188 10 = mem 188 10 + 1 ∧ m 188 11 = mem 188 11 + (f_d u c o l n).2 ∧ q_fx X mem m) = Q
  -- the wax
  have k4 : ∀ m : qm, q_fx X mem m → m 188 10 = mem 188 10 → m 188 11 = mem 188 11 → (∀ j : Int, 0 ≤ j → j < n → w_m m j ((f_d u c o l n).1 j) (b_f u c o l F n j) ∧ m 195 j = w j) →
      q_At yX12_goBell cX12_goBell 6 (some .int) 2 0 0 (qK (q_rb b) Q) 252 [(2, 188), (0, (f_d u c o l n).2), (0, 0), (4, 0), (4, 0), (4, 0)] [] (q_sh0, q_rb b, m) := by
    intro m0 f0 b0 c0 a0
    refine q_for (A := fun i m => q_At yX12_goBell cX12_goBell 6 (some .int) 2 0 0 _ 252 [(2, 188), (0, (f_d u c o l n).2), (0, i), (4, 0), (4, 0), (4, 0)] [] (q_sh0, q_rb b, m)) (fun i m => 0 ≤ i ∧ q_fx X mem m ∧ m 188 10 = mem 188 10 ∧ m 188 11 = mem 188 11 ∧ (∀ j : Int, 0 ≤ j → j < n → w_m m j ((f_d u c o l n).1 j) (b_f u c o l F n j) ∧ m 195 j = if j < i then max 0 (w j - 1) else w j)) n ?_ ?_ 0 m0 ⟨by omega, f0, b0, c0, fun j a b => ⟨(a0 j a b).1, by rw [if_neg (by omega)]; exact (a0 j a b).2⟩⟩
    · rintro i m hi ⟨i0, f1, b1, c1, a1⟩
      have e0 : m 188 0 = n := (f1 188 0 (by rw [hX']; omega)).trans hn
      have := (hdi n (Nat.le_refl n)).2
      refine bkX12_goBell_252 (fun _ => ⟨q_in_of (by omega) (by omega), q_in_of (by omega) (by omega)⟩) (fun _ => ?_) (fun z => absurd z (by omega)) (fun z => absurd z (by omega))
      rw [← hQ]
      have g : q_fx (fun c i => c = 188 ∧ (i = 10 ∨ i = 11)) m (q_up (q_up m 188 10 (m 188 10 + 1)) 188 11 (m 188 11 + (f_d u c o l n).2)) := (q_fx.rf.up ⟨rfl, Or.inl rfl⟩).up ⟨rfl, Or.inr rfl⟩
      refine ⟨fun j a b => ⟨(a1 j a b).1.fo g (by omega), ?_⟩, rfl, ?_, ?_, f1.tr (g.mono (fun c i z => by rw [hX']; omega))⟩
      · rw [g _ _ (by omega), (a1 j a b).2, if_pos (by omega)]
      · rw [q_up_i (by decide), q_up_s]; omega
      · rw [q_up_s]; omega
    · rintro i m hi ⟨i0, f1, b1, c1, a1⟩ ih
      have e0 : m 188 0 = n := (f1 188 0 (by rw [hX']; omega)).trans hn
      have e1 := (a1 i i0 hi).2
      rw [if_neg (by omega)] at e1
      have e2 := ok.2 i i0 hi
      refine bkX12_goBell_252 (fun z => absurd z (by omega)) (fun z => absurd z (by omega)) (fun _ => ⟨by omega, q_in_of (by omega) (by omega), q_in_of (by omega) (by omega)⟩) (fun _ => ?_)
      rw [e1]
      have g : q_fx (fun c _ => c = 195) m (q_up m 195 i (max 0 (w i - 1))) := q_fx.rf.up rfl
      refine ih _ ⟨by omega, f1.tr (g.mono (fun c i z => by rw [hX']; omega)), (g _ _ (by omega)).trans b1, (g _ _ (by omega)).trans c1, fun j a b => ⟨(a1 j a b).1.fo g (by omega), ?_⟩⟩
      by_cases hj : j = i
      · subst hj; rw [q_up_s, if_pos (by omega)]
      · rw [q_up_i hj, (a1 j a b).2]
        by_cases h2 : j < i
        · rw [if_pos h2, if_pos (by omega)]
        · rw [if_neg h2, if_neg (by omega)]
  -- what comes down
  have k3 : ∀ m : qm, q_fx X mem m → m 188 10 = mem 188 10 → m 188 11 = mem 188 11 → (∀ j : Int, 0 ≤ j → j < n → w_m m j (l j - o j) (fun k => F j (k + o j)) ∧ m 195 j = w j ∧ m 202 j = o j ∧ ∀ k, 0 ≤ k → k < o j → m 203 (9 * j + k) = F j k) →
      q_At yX12_goBell cX12_goBell 6 (some .int) 2 0 0 (qK (q_rb b) Q) 121 [(2, 188), (0, 0), (0, 0), (4, 0), (4, 0), (4, 0)] [] (q_sh0, q_rb b, m) := by
    intro m0 f0 b0 c0 a0
    refine q_for1 (A := fun i (x : Int) m => q_At yX12_goBell cX12_goBell 6 (some .int) 2 0 0 _ 121 [(2, 188), (0, x), (0, i), (4, 0), (4, 0), (4, 0)] [] (q_sh0, q_rb b, m)) (fun i x m => ∃ v : Nat, i = v ∧ v ≤ n ∧ x = (f_d u c o l v).2 ∧ q_fx X mem m ∧ m 188 10 = mem 188 10 ∧ m 188 11 = mem 188 11 ∧ (∀ j : Int, 0 ≤ j → j < n → w_m m j ((f_d u c o l v).1 j) (b_f u c o l F v j) ∧ m 195 j = w j ∧ m 202 j = o j ∧ ∀ k, 0 ≤ k → k < o j → m 203 (9 * j + k) = F j k)) n ?_ ?_ 0 0 m0 ⟨0, rfl, by omega, rfl, f0, b0, c0, a0⟩
    · rintro i x m hi ⟨v, rfl, hv, rfl, f1, b1, c1, a1⟩
      have e0 : m 188 0 = n := (f1 188 0 (by rw [hX']; omega)).trans hn
      have hvn : v = n := by omega
      subst hvn
      exact bkX12_goBell_121 (fun _ => k4 m f1 b1 c1 (fun j a b => ⟨(a1 j a b).1, (a1 j a b).2.1⟩)) (fun z => absurd z (by omega)) (fun z => absurd z (by omega)) (fun z => absurd z (by omega)) (fun z => absurd z (by omega))
    · rintro i x m hi ⟨v, rfl, hv, rfl, f1, b1, c1, a1⟩ ih
      have e0 : m 188 0 = n := (f1 188 0 (by rw [hX']; omega)).trans hn
      have eu : m 194 v = u v := by rw [f1 194 v (by rw [hX']; omega), hu]
      have ec : ∀ k, m 189 k = c k := fun k => by rw [f1 189 k (by rw [hX']; omega), hc]
      have ov := hoi v (by omega) (by omega)
      have okv := ok.2 v (by omega) (by omega)
      have av := a1 v (by omega) (by omega)
      have ht : u v = -1 ∨ (0 ≤ u v ∧ u v < n) := okv.1
      have dv := (hdi v (by omega)).2
      refine bkX12_goBell_121 (fun z => absurd z (by omega)) (fun _ => by omega) (fun _ z => ?_) (fun _ z => ?_) (fun _ z => ?_)
      · rw [eu] at z ⊢
        have ht := ht.resolve_left z
        have d1 := (hdi v (by omega)).1 (u v) ht.1 ht.2
        have okt := ok.2 (u v) ht.1 ht.2
        have e1 := (a1 (u v) ht.1 ht.2).1.1
        exact ⟨by omega, by rw [ec, e1]; exact q_in_of (by omega) (by omega)⟩
      · rw [eu] at z ⊢
        have ht := ht.resolve_left z
        have d1 := (hdi v (by omega)).1 (u v) ht.1 ht.2
        have okt := ok.2 (u v) ht.1 ht.2
        have w1 := (a1 (u v) ht.1 ht.2).1
        rw [av.2.2.1, ec, w1.1]
        generalize hlt : (f_d u c o l v).1 (u v) = lt at d1 w1 ⊢
        generalize hcm : min (o v) (c (u v) - lt) = cm
        refine q_for (A := fun i m => q_At yX12_goBell cX12_goBell 6 (some .int) 2 0 0 _ 172 [(2, 188), (0, (f_d u c o l v).2), (0, (v : Int)), (0, u v), (0, cm), (0, i)] [] (q_sh0, q_rb b, m)) (fun i m' => 0 ≤ i ∧ i ≤ cm ∧ m' 190 (u v) = lt ∧ (∀ k, 0 ≤ k → k < lt + i → m' 196 (60 * u v + k) = if lt ≤ k then F v (k - lt) else b_f u c o l F v (u v) k) ∧ q_fx (fun c i => c = 196 ∧ 60 * u v ≤ i ∧ i < 60 * u v + 60) m m') cm ?_ ?_ 0 m ⟨by omega, by omega, w1.1, fun k k0 k1 => by rw [if_neg (by omega)]; exact w1.2 k k0 (by omega), q_fx.rf⟩
        · rintro i m' hi ⟨i0, i1, g1, g2, g3⟩
          have e202 : m' 202 v = o v := (g3 _ _ (by omega)).trans av.2.2.1
          have fin : ∀ m2 : qm, m2 190 (u v) = lt + cm → q_fx (fun c i => c = 190 ∧ i = u v) m' m2 → q_At yX12_goBell cX12_goBell 6 (some .int) 2 0 0 (qK (q_rb b) Q) 121 [(2, 188), (0, (f_d u c o l v).2 + (m' 202 v - cm)), (0, (v : Int) + 1), (4, 0), (4, 0), (4, 0)] [] (q_sh0, q_rb b, m2) := by
            intro m2 h2 g
            have fx : q_fx (w_y (u v)) m m2 := (g3.mono (fun c i z => Or.inl z)).tr (g.mono (fun c i z => Or.inr z))
            refine ih _ _ ⟨v + 1, by omega, by omega, ?_, f1.tr (fx.mono (fun c i z => by rw [hX']; simp only [w_y] at z; omega)), (fx _ _ (by simp only [w_y]; omega)).trans b1, (fx _ _ (by simp only [w_y]; omega)).trans c1, fun j a b => ⟨?_, (fx _ _ (by simp only [w_y]; omega)).trans (a1 j a b).2.1, (fx _ _ (by simp only [w_y]; omega)).trans (a1 j a b).2.2.1, fun k k0 k1 => (fx _ _ (by simp only [w_y]; omega)).trans ((a1 j a b).2.2.2 k k0 k1)⟩⟩
            · simp only [f_d]; rw [if_neg z, e202]; simp only; rw [hlt, hcm]
            · by_cases hj : j = u v
              · subst hj
                have e1 : (f_d u c o l (v + 1)).1 (u v) = lt + cm := by simp only [f_d]; rw [if_neg z]; simp only [if_true, ite_true]; rw [hlt, hcm]
                rw [e1]
                refine ⟨h2, fun k k0 k1 => ?_⟩
                rw [g _ _ (by omega), g2 k k0 (by omega)]
                simp only [b_f]
                rw [hlt]
                by_cases hk : lt ≤ k
                · rw [if_pos hk, if_pos ⟨z, trivial, hk⟩]
                · rw [if_neg hk, if_neg (fun z => hk z.2.2)]
              · have e1 : (f_d u c o l (v + 1)).1 j = (f_d u c o l v).1 j := by simp only [f_d]; rw [if_neg z]; simp only; rw [if_neg hj]
                rw [e1]
                have d2 := (hdi v (by omega)).1 j a b
                have okj := ok.2 j a b
                refine ((a1 j a b).1.fx (by omega) fx hj).en (fun k k0 k1 => ?_)
                simp only [b_f]
                rw [if_neg (fun z => hj z.2.1)]
          refine bkX12_goBell_172 (fun _ _ => ?_) (fun _ h0 => fin m' (by omega) q_fx.rf) (fun _ _ => ?_) (fun _ _ => ?_) (fun z => absurd z (by omega)) (fun z => absurd z (by omega))
          · rw [e202]; exact ⟨by omega, q_in_of (by omega) (by omega), q_in_of (by omega) (by omega), q_in_of (by omega) (by omega)⟩
          · rw [e202, g1]; exact ⟨by omega, q_in_of (by omega) (by omega), by omega, q_in_of (by omega) (by omega), q_in_of (by omega) (by omega), q_in_of (by omega) (by omega)⟩
          · exact fin _ (by rw [q_up_s, g1]) (q_fx.rf.up ⟨rfl, rfl⟩)
        · rintro i m' hi ⟨i0, i1, g1, g2, g3⟩ ih2
          refine bkX12_goBell_172 (fun z => absurd z (by omega)) (fun z => absurd z (by omega)) (fun z => absurd z (by omega)) (fun z => absurd z (by omega)) (fun _ => ?_) (fun _ => ?_)
          · rw [g1]; exact ⟨q_in_of (by omega) (by omega), by omega, q_in_of (by omega) (by omega), q_in_of (by omega) (by omega), q_in_of (by omega) (by omega), q_in_of (by omega) (by omega), by omega, by omega, q_in_of (by omega) (by omega)⟩
          · rw [g1, g3 203 _ (by omega), av.2.2.2 i i0 (by omega)]
            refine ih2 _ ⟨by omega, by omega, by rw [q_up_c (by decide)]; exact g1, fun k k0 k1 => ?_, g3.up ⟨rfl, by omega, by omega⟩⟩
            by_cases hk : k = lt + i
            · rw [show 60 * u v + k = 60 * u v + lt + i by omega, q_up_s, if_pos (by omega)]; congr 1; omega
            · rw [q_up_i (by omega)]; exact g2 k k0 (by omega)
      · rw [eu] at z ⊢
        refine bkX12_goBell_172 (fun _ _ => ?_) (fun _ _ => ?_) (fun _ z => absurd z (by omega)) (fun _ z => absurd z (by omega)) (fun z => absurd z (by omega)) (fun z => absurd z (by omega))
        · rw [av.2.2.1]; exact ⟨by omega, q_in_of (by omega) (by omega), q_in_of (by omega) (by omega), q_in_of (by omega) (by omega)⟩
        · rw [av.2.2.1]
          refine ih _ _ ⟨v + 1, by omega, by omega, by simp only [f_d]; rw [if_pos z]; simp only; omega, f1, b1, c1, fun j a b => ⟨?_, (a1 j a b).2⟩⟩
          have e1 : (f_d u c o l (v + 1)).1 j = (f_d u c o l v).1 j := by simp only [f_d]; rw [if_pos z]
          rw [e1]
          refine (a1 j a b).1.en (fun k k0 k1 => ?_)
          simp only [b_f]
          rw [if_neg (fun y => y.1 z)]
  -- what is let go
  have k2 : ∀ m : qm, q_fx (fun c _ => c = 202 ∨ c = 203) mem m → (∀ j : Int, 0 ≤ j → j < n → m 202 j = o j ∧ ∀ k, 0 ≤ k → k < o j → m 203 (9 * j + k) = F j k) →
      q_At yX12_goBell cX12_goBell 6 (some .int) 2 0 0 (qK (q_rb b) Q) 92 [(2, 188), (0, 0), (4, 0), (4, 0), (4, 0), (4, 0)] [] (q_sh0, q_rb b, m) := by
    intro m0 f0 a0
    refine q_for (A := fun i m => q_At yX12_goBell cX12_goBell 6 (some .int) 2 0 0 _ 92 [(2, 188), (0, i), (4, 0), (4, 0), (4, 0), (4, 0)] [] (q_sh0, q_rb b, m)) (fun i m => 0 ≤ i ∧ i ≤ n ∧ q_fx (fun c _ => c = 190 ∨ c = 196) m0 m ∧ (∀ j : Int, 0 ≤ j → j < n → if j < i then w_m m j (l j - o j) (fun k => F j (k + o j)) else w_m m j (l j) (F j))) n ?_ ?_ 0 m0 ⟨by omega, by omega, q_fx.rf, fun j a b => by rw [if_neg (by omega)]; exact (hF j a b).fo f0 (by omega)⟩
    · rintro i m hi ⟨i0, i1, f1, a1⟩
      have e0 : m 188 0 = n := (f1 188 0 (by omega)).trans ((f0 188 0 (by omega)).trans hn)
      refine bkX12_goBell_92 (P2 := fun _ _ => True) (fun _ => k3 m ((f0.mono (fun c i z => by rw [hX']; omega)).tr (f1.mono (fun c i z => by rw [hX']; omega))) ((f1 _ _ (by omega)).trans (f0 _ _ (by omega))) ((f1 _ _ (by omega)).trans (f0 _ _ (by omega))) (fun j a b => ?_)) (fun z => absurd z (by omega)) (fun z => absurd z (by omega)) (fun z => absurd z (by omega)) (fun z => absurd z (by omega))
      have := a1 j a b
      rw [if_pos (by omega)] at this
      exact ⟨this, by rw [f1 _ _ (by omega), f0 _ _ (by omega), hw], (f1 _ _ (by omega)).trans (a0 j a b).1, fun k k0 k1 => (f1 _ _ (by omega)).trans ((a0 j a b).2 k k0 k1)⟩
    · rintro i m hi ⟨i0, i1, f1, a1⟩ ih
      have e0 : m 188 0 = n := (f1 188 0 (by omega)).trans ((f0 188 0 (by omega)).trans hn)
      have e1 : m 202 i = o i := (f1 _ _ (by omega)).trans (a0 i i0 hi).1
      have w1 := a1 i i0 hi
      rw [if_neg (by omega)] at w1
      have oi := hoi i i0 hi
      have oki := ok.2 i i0 hi
      refine bkX12_goBell_92 (fun z => absurd z (by omega)) (fun _ => by omega) (P2 := fun _ m2 => w_m m2 i (l i - o i) (fun k => F i (k + o i)) ∧ q_fx (w_y i) m m2) (fun _ => ?_) (fun _ _ _ _ _ => q_in_of (by omega) (by omega)) ?_
      · rw [e1]; exact sp_letGoM (by omega) w1 (by omega) (by omega)
      · rintro _ r2 m2 ⟨t1, t2⟩ _
        refine ih _ ⟨by omega, by omega, f1.tr (t2.mono (fun c i z => by simp only [w_y] at z; omega)), fun j a b => ?_⟩
        have oj := hoi j a b
        have okj := ok.2 j a b
        by_cases hj : j = i
        · subst hj; rw [if_pos (by omega)]; exact t1
        · have := a1 j a b
          by_cases h2 : j < i
          · rw [if_pos h2] at this; rw [if_pos (by omega)]; exact this.fx (by omega) t2 hj
          · rw [if_neg h2] at this; rw [if_neg (by omega)]; exact this.fx (by omega) t2 hj
  refine q_enter (by decide +kernel) (by simp) (Nat.le_of_ble_eq_true rfl) ?_
  refine bkX12_goBell_0 ?_
  refine q_for (A := fun i m => q_At yX12_goBell cX12_goBell 6 (some .int) 2 0 0 _ 2 [(2, 188), (0, i), (4, 0), (4, 0), (4, 0), (4, 0)] [] (q_sh0, q_rb b, m)) (fun i m => 0 ≤ i ∧ i ≤ n ∧ q_fx (fun c _ => c = 202 ∨ c = 203) mem m ∧ (∀ j : Int, 0 ≤ j → j < i → m 202 j = o j ∧ ∀ k, 0 ≤ k → k < o j → m 203 (9 * j + k) = F j k)) n ?_ ?_ 0 mem ⟨by omega, by omega, q_fx.rf, fun j a b => absurd a (by omega)⟩
  · rintro i m hi ⟨i0, i1, f1, a1⟩
    have e0 : m 188 0 = n := (f1 188 0 (by omega)).trans hn
    exact bkX12_goBell_2 (fun _ => k2 m f1 (fun j a b => a1 j a (by omega))) (fun z => absurd z (by omega)) (fun z => absurd z (by omega)) (fun z => absurd z (by omega))
  · rintro i m hi ⟨i0, i1, f1, a1⟩ ih
    have e0 : m 188 0 = n := (f1 188 0 (by omega)).trans hn
    have oi := hoi i i0 hi
    have oki := ok.2 i i0 hi
    have w1 := hF i i0 hi
    have key : q_At yX12_goBell cX12_goBell 6 (some .int) 2 0 0 (qK (q_rb b) Q) 46 [(2, 188), (0, i), (0, 0), (4, 0), (4, 0), (4, 0)] [] (q_sh0, q_rb b, q_up m 202 i (o i)) := by
      refine q_for (A := fun k m => q_At yX12_goBell cX12_goBell 6 (some .int) 2 0 0 _ 46 [(2, 188), (0, i), (0, k), (4, 0), (4, 0), (4, 0)] [] (q_sh0, q_rb b, m)) (fun k m' => 0 ≤ k ∧ k ≤ o i ∧ m' 202 i = o i ∧ (∀ x, 0 ≤ x → x < k → m' 203 (9 * i + x) = F i x) ∧ q_fx (fun c x => (c = 202 ∧ x = i) ∨ (c = 203 ∧ 9 * i ≤ x ∧ x < 9 * i + 9)) m m') (o i) ?_ ?_ 0 _ ⟨by omega, by omega, q_up_s, fun x x0 x1 => absurd x0 (by omega), q_fx.rf.up (Or.inl ⟨rfl, rfl⟩)⟩
      · rintro k m' hk ⟨k0, k1, g1, g2, g3⟩
        refine bkX12_goBell_46 (by omega) (fun _ => q_in_of (by omega) (by omega)) (fun _ => ?_) (fun z => absurd z (by omega)) (fun z => absurd z (by omega))
        refine ih _ ⟨by omega, by omega, f1.tr (g3.mono (fun c i z => by omega)), fun j a b => ?_⟩
        by_cases hj : j = i
        · subst hj; exact ⟨g1, fun x x0 x1 => g2 x x0 (by omega)⟩
        · have := a1 j a (by omega)
          have oj := hoi j a (by omega)
          exact ⟨(g3 _ _ (by omega)).trans this.1, fun x x0 x1 => (g3 _ _ (by omega)).trans (this.2 x x0 x1)⟩
      · rintro k m' hk ⟨k0, k1, g1, g2, g3⟩ ih2
        refine bkX12_goBell_46 (by omega) (fun z => absurd z (by omega)) (fun z => absurd z (by omega)) (fun _ => ⟨q_in_of (by omega) (by omega), q_in_of (by omega) (by omega), q_in_of (by omega) (by omega), q_in_of (by omega) (by omega), by omega, by omega, q_in_of (by omega) (by omega)⟩) (fun _ => ?_)
        rw [g3 196 _ (by omega), f1 196 _ (by omega), w1.2 k k0 (by omega)]
        refine ih2 _ ⟨by omega, by omega, by rw [q_up_c (by decide)]; exact g1, fun x x0 x1 => ?_, g3.up (Or.inr ⟨rfl, by omega, by omega⟩)⟩
        by_cases hx : x = k
        · subst hx; exact q_up_s
        · rw [q_up_i (by omega)]; exact g2 x x0 (by omega)
    have eo : o i = if 0 < w i then 0 else min (h i) (l i) := by rw [← ho]; rfl
    refine bkX12_goBell_2 (fun z => absurd z (by omega)) (fun _ => by omega) (fun _ z => ?_) (fun _ z => ?_)
    · rw [f1 195 _ (by omega), hw] at z
      rw [f1 191 _ (by omega), f1 190 _ (by omega), hh, hl]
      rw [if_neg (by omega)] at eo
      rw [← eo]; exact key
    · rw [f1 195 _ (by omega), hw] at z
      rw [if_pos z] at eo
      rw [eo] at key; exact key
