/-! Flow.strikeAll, and the reference's goOn(n) -/
def f_C (m : qm) : f_S := (m 27, m 30, m 26 7)
def f_M (m : qm) (x : Int) : f_S := (m 207, m 208, x)
/-- the class's flow stands well: pipes and levels, and 'over' is only set where nothing stirs -/
def f_wf (n : Nat) (m : qm) : Prop := m 1 3 = n ∧ f_OK n (m 29) (m 2) (m 28) (f_C m) ∧ (m 26 8 = 0 ∨ ¬ f_stir n (m 30) (m 28) (m 27))
theorem f_wf.strike {n : Nat} {mem m : qm} (wf : f_wf n mem) (h1 : ∀ i : Int, 0 ≤ i → i < n → m 27 i = (f_d (mem 29) (mem 2) (f_o (mem 30) (mem 28) (mem 27)) (mem 27) n).1 i ∧ m 30 i = max 0 (mem 30 i - 1)) (h2 : m 26 7 = mem 26 7 + (f_d (mem 29) (mem 2) (f_o (mem 30) (mem 28) (mem 27)) (mem 27) n).2) (h3 : (m 26 8 = 0 ∧ f_stir n (mem 30) (mem 28) (mem 27)) ∨ (m 26 8 = 1 ∧ ¬ f_stir n (mem 30) (mem 28) (mem 27))) (hf : q_fr [26, 27, 30, 31] mem m) :
    f_eq n (f_C m) (f_b n (mem 29) (mem 2) (mem 28) (f_C mem)) ∧ f_wf n m := by
  obtain ⟨hn, ok, -⟩ := wf
  have e : f_eq n (f_C m) (f_b n (mem 29) (mem 2) (mem 28) (f_C mem)) := ⟨fun j a b => h1 j a b, h2⟩
  have e29 : m 29 = mem 29 := funext (hf 29 (by decide))
  have e2 : m 2 = mem 2 := funext (hf 2 (by decide))
  have e28 : m 28 = mem 28 := funext (hf 28 (by decide))
  refine ⟨e, (hf 1 (by decide) 3).trans hn, ?_, ?_⟩
  · rw [e29, e2, e28]
    exact ok.b.en (fun _ _ _ => rfl) (fun _ _ _ => rfl) (fun _ _ _ => rfl) e.sy
  · rcases h3 with h | h
    · exact Or.inl h.1
    · right
      have st := f_still ok h.2
      have t := e.tr st
      rw [e28]
      exact fun z => h.2 (f_stir_en (fun j a b => (t.1 j a b).2) (fun _ _ _ => rfl) (fun j a b => (t.1 j a b).1) z)
theorem sp_strike' {b : Int} {mem : qm} (n : Nat) (wf : f_wf n mem) (hl : 0 ≤ mem 26 7 ∧ mem 26 7 < 100000000) :
    q_Ev yX1_strike cX1_strike 4 none 2 0 0 [(2, 26)] (q_sh0, q_rb b, mem) (qK (q_rb b) (fun _ m => f_eq n (f_C m) (f_b n (mem 29) (mem 2) (mem 28) (f_C mem)) ∧ f_wf n m ∧ q_fr [26, 27, 30, 31] mem m)) := by
  refine (sp_strike n wf.1 wf.2.1 hl).mono ?_
  rintro r σ ⟨m, rfl, h1, h2, h3, hf⟩
  have := wf.strike h1 h2 h3 hf
  exact ⟨m, rfl, this.1, this.2, hf⟩
theorem sp_strikeAll {b : Int} {mem : qm} (n k : Nat) (wf : f_wf n mem) (hl : 0 ≤ mem 26 7 ∧ mem 26 7 + 81 * k < 100000000) :
    q_Ev yX1_strikeAll cX1_strikeAll 3 none 3 0 0 [(2, 26), (0, (k : Int))] (q_sh0, q_rb b, mem) (qK (q_rb b) (fun _ m => f_eq n (f_C m) (f_it n (mem 29) (mem 2) (mem 28) k (f_C mem)) ∧ f_wf n m ∧ q_fr [26, 27, 30, 31] mem m)) := by
  refine q_enter (by decide +kernel) (by simp) (Nat.le_of_ble_eq_true rfl) ?_
  refine bkX1_strikeAll_0 ?_
  refine q_for (A := fun i m => q_At yX1_strikeAll cX1_strikeAll 3 none 3 0 0 _ 2 [(2, 26), (0, (k : Int)), (0, i)] [] (q_sh0, q_rb b, m)) (fun i m => ∃ v : Nat, i = v ∧ v ≤ k ∧ f_eq n (f_C m) (f_it n (mem 29) (mem 2) (mem 28) v (f_C mem)) ∧ f_wf n m ∧ q_fr [26, 27, 30, 31] mem m) k ?_ ?_ 0 mem ⟨0, rfl, by omega, f_eq.rf, wf, q_fr.rf⟩
  · rintro i m hi ⟨v, rfl, hv, he, hw, hf⟩
    have : v = k := by omega
    subst this
    exact bkX1_strikeAll_2 (fun _ => ⟨he, hw, hf⟩) (fun z => absurd z (by omega)) (P3 := fun _ _ => True) (fun z => absurd z (by omega)) (fun z => absurd z (by omega)) (fun z => absurd z (by omega))
  · rintro i m hi ⟨v, rfl, hv, he, hw, hf⟩ ih
    have e29 : m 29 = mem 29 := funext (hf 29 (by decide))
    have e2 : m 2 = mem 2 := funext (hf 2 (by decide))
    have e28 : m 28 = mem 28 := funext (hf 28 (by decide))
    have lo := f_it_lost wf.2.1 v
    have lo2 : m 26 7 = (f_it n (mem 29) (mem 2) (mem 28) v (f_C mem)).2.2 := he.2
    have lo3 : (f_C mem).2.2 = mem 26 7 := rfl
    refine bkX1_strikeAll_2 (fun z => absurd z (by omega)) (fun _ z => ?_) (fun _ _ => sp_strike' n hw (by omega)) (fun _ _ _ _ _ _ => q_in_of (by omega) (by omega)) (fun _ _ r m' h' _ => ?_)
    · refine ⟨?_, hw, hf⟩
      have hs : ¬ f_stir n (m 30) (m 28) (m 27) := hw.2.2.resolve_left z
      have hs2 : ¬ f_stir n (f_it n (mem 29) (mem 2) (mem 28) v (f_C mem)).2.1 (mem 28) (f_it n (mem 29) (mem 2) (mem 28) v (f_C mem)).1 := by
        rw [e28] at hs
        exact fun q => hs (f_stir_en (fun j a b => (he.1 j a b).2.symm) (fun _ _ _ => rfl) (fun j a b => (he.1 j a b).1.symm) q)
      have := f_still_it (wf.2.1.it v) hs2 (k - v)
      rw [← f_it_add, show v + (k - v) = k by omega] at this
      exact he.tr this.sy
    · obtain ⟨g1, g2, g3⟩ := h'
      refine ih m' ⟨v + 1, by omega, by omega, ?_, g2, hf.tr g3⟩
      rw [e29, e2, e28] at g1
      exact g1.tr (f_b_en (hw.2.1.en (by rw [e29]; exact fun _ _ _ => rfl) (by rw [e2]; exact fun _ _ _ => rfl) (by rw [e28]; exact fun _ _ _ => rfl) f_eq.rf) (fun _ _ _ => rfl) (fun _ _ _ => rfl) (fun _ _ _ => rfl) he)
def f_mok (n : Nat) (m : qm) : Prop := m 188 0 = n ∧ f_OK n (m 194) (m 189) (m 209) (f_M m 0)
theorem sp_goOn' {b : Int} {mem : qm} (n : Nat) (wf : f_mok n mem) :
    q_Ev yX12_goOn cX12_goOn 5 (some .int) 1 0 0 [(2, 188)] (q_sh0, q_rb b, mem) (qK (q_rb b) (fun r m => (∀ x, f_eq n (f_M m (x + r)) (f_b n (mem 194) (mem 189) (mem 209) (f_M mem x))) ∧ 0 ≤ r ∧ r ≤ 81 ∧ f_mok n m ∧ q_fx f_X mem m)) := by
  refine (sp_goOn n wf.1 wf.2).mono ?_
  rintro r σ ⟨m, rfl, h1, h2, hf⟩
  have e : ∀ x, f_eq n (f_M m (x + r)) (f_b n (mem 194) (mem 189) (mem 209) (f_M mem x)) := fun x => ⟨fun j a b => h2 j a b, by show x + r = x + _; rw [h1]; rfl⟩
  have e1 : m 194 = mem 194 := funext (fun i => hf 194 i (by simp [f_X]))
  have e2 : m 189 = mem 189 := funext (fun i => hf 189 i (by simp [f_X]))
  have e3 : m 209 = mem 209 := funext (fun i => hf 209 i (by simp [f_X]))
  have d := f_d_in wf.2 n (Nat.le_refl n)
  have h9 := wf.2.1
  have d1 : 0 ≤ (f_d (mem 194) (mem 189) (f_o (mem 208) (mem 209) (mem 207)) (mem 207) n).2 ∧ (f_d (mem 194) (mem 189) (f_o (mem 208) (mem 209) (mem 207)) (mem 207) n).2 ≤ 9 * n := d.2
  refine ⟨m, rfl, e, by omega, by omega, ⟨(hf 188 0 (by decide)).trans wf.1, ?_⟩, hf⟩
  rw [e1, e2, e3]
  have := wf.2.b.en (fun _ _ _ => rfl) (fun _ _ _ => rfl) (fun _ _ _ => rfl) (e 0).sy
  exact this
theorem sp_goOnN {b : Int} {mem : qm} (n k : Nat) (wf : f_mok n mem) (hk : k ≤ 10000) :
    q_Ev yX12_goOn_ cX12_goOn_ 4 (some .int) 2 0 0 [(2, 188), (0, (k : Int))] (q_sh0, q_rb b, mem) (qK (q_rb b) (fun r m => f_eq n (f_M m r) (f_it n (mem 194) (mem 189) (mem 209) k (f_M mem 0)) ∧ f_mok n m ∧ q_fx f_X mem m)) := by
  refine q_enter (by decide +kernel) (by simp) (Nat.le_of_ble_eq_true rfl) ?_
  refine bkX12_goOn__0 ?_
  refine q_for1 (A := fun i (x : Int) m => q_At yX12_goOn_ cX12_goOn_ 4 (some .int) 2 0 0 _ 4 [(2, 188), (0, (k : Int)), (0, x), (0, i)] [] (q_sh0, q_rb b, m)) (fun i x m => ∃ v : Nat, i = v ∧ v ≤ k ∧ f_eq n (f_M m x) (f_it n (mem 194) (mem 189) (mem 209) v (f_M mem 0)) ∧ f_mok n m ∧ q_fx f_X mem m) k ?_ ?_ 0 0 mem ⟨0, rfl, by omega, f_eq.rf, wf, q_fx.rf⟩
  · rintro i x m hi ⟨v, rfl, hv, he, hw, hf⟩
    have : v = k := by omega
    subst this
    exact bkX12_goOn__4 (fun _ => ⟨he, hw, hf⟩) (P2 := fun _ _ => True) (fun z => absurd z (by omega)) (fun z => absurd z (by omega)) (fun z => absurd z (by omega))
  · rintro i x m hi ⟨v, rfl, hv, he, hw, hf⟩ ih
    have lo := f_it_lost wf.2 v
    have lo2 : x = (f_it n (mem 194) (mem 189) (mem 209) v (f_M mem 0)).2.2 := he.2
    have lo3 : (f_M mem 0).2.2 = 0 := rfl
    have e1 : m 194 = mem 194 := funext (fun i => hf 194 i (by simp [f_X]))
    have e2 : m 189 = mem 189 := funext (fun i => hf 189 i (by simp [f_X]))
    have e3 : m 209 = mem 209 := funext (fun i => hf 209 i (by simp [f_X]))
    refine bkX12_goOn__4 (fun z => absurd z (by omega)) (fun _ => sp_goOn' n hw) (fun _ r m' h' _ => ?_) (fun _ r m' h' _ => ?_)
    · obtain ⟨-, g2, g3, -⟩ := h'
      exact ⟨q_in_of (by omega) (by omega), q_in_of (by omega) (by omega)⟩
    · obtain ⟨g1, -, -, g4, g5⟩ := h'
      refine ih _ m' ⟨v + 1, by omega, by omega, ?_, g4, hf.tr g5⟩
      have g1 := g1 x
      rw [e1, e2, e3] at g1
      refine g1.tr (f_b_en ?_ (fun _ _ _ => rfl) (fun _ _ _ => rfl) (fun _ _ _ => rfl) he)
      exact (wf.2.it v).en (fun _ _ _ => rfl) (fun _ _ _ => rfl) (fun _ _ _ => rfl) he.sy
