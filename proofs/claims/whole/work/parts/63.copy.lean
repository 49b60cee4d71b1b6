/-! ===== water copied, laid and brought ===== -/
theorem qst_far {s o : Int} (hs : q_st s) (ho : q_st o) (hne : s ≠ o) : s + 9 ≤ o ∨ o + 9 ≤ s := by
  have key : ∀ s ∈ [(5 : Int), 14, 35, 44, 53, 62, 71, 80, 89, 98, 107, 116, 125, 134, 170, 179], ∀ o ∈ [(5 : Int), 14, 35, 44, 53, 62, 71, 80, 89, 98, 107, 116, 125, 134, 170, 179], s ≠ o → s + 9 ≤ o ∨ o + 9 ≤ s := by decide
  exact key s hs o ho hne
theorem q_cp_s {f : qm} {c0 c1 n i : Int} (h0 : 0 ≤ i) (h1 : i < n) : q_cp f c0 0 c1 0 n c1 i = f c0 i := by unfold q_cp; rw [if_pos ⟨rfl, h0, by omega⟩]; congr 1; omega
def w_cp (m : qm) (o : Int) (m' : qm) (s : Int) : Prop := (∀ i, 0 ≤ i → i < 540 → m' (s + 1) i = m (o + 1) i) ∧ (∀ i, 0 ≤ i → i < 9 → m' (s + 2) i = m (o + 2) i ∧ m' (s + 3) i = m (o + 3) i ∧ m' (s + 4) i = m (o + 4) i) ∧ (∀ i, 0 ≤ i → i < 36 → m' (s + 7) i = m (o + 7) i) ∧ (∀ i, 0 ≤ i → i < 7 → m' (s + 8) i = m (o + 8) i) ∧ m' s 8 = m o 8 ∧ m' s 9 = m o 9
abbrev w_z (s c i : Int) : Prop := (c = s ∧ 8 ≤ i) ∨ (s < c ∧ c ≤ s + 4) ∨ c = s + 7 ∨ c = s + 8
theorem w_cp.fr {m m' m'' : qm} {o s : Int} (h : w_cp m o m' s) {X : Int → Int → Prop} (hf : q_fx X m' m'') (hd : ∀ c i, w_z s c i → ¬ X c i) : w_cp m o m'' s := by
  have e : ∀ c i, w_z s c i → m'' c i = m' c i := fun c i z => hf c i (hd c i z)
  obtain ⟨a, b, c, d, f, g⟩ := h
  refine ⟨fun i i0 i1 => (e _ _ (by unfold w_z; omega)).trans (a i i0 i1), fun i i0 i1 => ⟨(e _ _ (by unfold w_z; omega)).trans (b i i0 i1).1, (e _ _ (by unfold w_z; omega)).trans (b i i0 i1).2.1, (e _ _ (by unfold w_z; omega)).trans (b i i0 i1).2.2⟩, fun i i0 i1 => (e _ _ (by unfold w_z; omega)).trans (c i i0 i1), fun i i0 i1 => (e _ _ (by unfold w_z; omega)).trans (d i i0 i1), (e _ _ (Or.inl ⟨rfl, by decide⟩)).trans f, (e _ _ (Or.inl ⟨rfl, by decide⟩)).trans g⟩
theorem w_cp.rf {m : qm} {s : Int} : w_cp m s m s := ⟨fun _ _ _ => rfl, fun _ _ _ => ⟨rfl, rfl, rfl⟩, fun _ _ _ => rfl, fun _ _ _ => rfl, rfl, rfl⟩
theorem w_cp.tr {m m' m'' : qm} {s o p : Int} (h : w_cp m o m' s) (g : w_cp m' s m'' p) : w_cp m o m'' p := by
  obtain ⟨a, b, c, d, f, e⟩ := h
  obtain ⟨a', b', c', d', f', e'⟩ := g
  exact ⟨fun i x y => (a' i x y).trans (a i x y), fun i x y => ⟨(b' i x y).1.trans (b i x y).1, (b' i x y).2.1.trans (b i x y).2.1, (b' i x y).2.2.trans (b i x y).2.2⟩, fun i x y => (c' i x y).trans (c i x y), fun i x y => (d' i x y).trans (d i x y), f'.trans f, e'.trans e⟩
theorem sp_copyWater {b s o : Int} {mem : qm} (hs : q_st s) (ho : q_st o) (far : s + 9 ≤ o ∨ o + 9 ≤ s) (h9 : mem o 9 = 0 ∨ mem o 9 = 1) : q_Ev yX7_copyWater cX7_copyWater 2 none 1 0 0 [(2, s), (2, o)] (q_sh0, q_rb b, mem) (qK (q_rb b) (fun _ m => w_cp mem o m s ∧ q_fx (w_z s) mem m)) := by
  refine q_enter (by decide +kernel) (by simp) (Nat.le_of_ble_eq_true rfl) ?_
  generalize hK1 : q_cp mem (o + 1) 0 (s + 1) 0 540 = K1
  generalize hK2 : q_cp K1 (o + 2) 0 (s + 2) 0 9 = K2
  generalize hK3 : q_cp K2 (o + 3) 0 (s + 3) 0 9 = K3
  generalize hK4 : q_cp K3 (o + 4) 0 (s + 4) 0 9 = K4
  generalize hK5 : q_cp K4 (o + 7) 0 (s + 7) 0 36 = K5
  generalize hK6 : q_cp K5 (o + 8) 0 (s + 8) 0 7 = K6
  have d1 : ∀ c i, c ≠ s + 1 → K1 c i = mem c i := fun c i h => by rw [← hK1, q_cp_c h]
  have d2 : ∀ c i, c ≠ s + 2 → K2 c i = K1 c i := fun c i h => by rw [← hK2, q_cp_c h]
  have d3 : ∀ c i, c ≠ s + 3 → K3 c i = K2 c i := fun c i h => by rw [← hK3, q_cp_c h]
  have d4 : ∀ c i, c ≠ s + 4 → K4 c i = K3 c i := fun c i h => by rw [← hK4, q_cp_c h]
  have d5 : ∀ c i, c ≠ s + 7 → K5 c i = K4 c i := fun c i h => by rw [← hK5, q_cp_c h]
  have d6 : ∀ c i, c ≠ s + 8 → K6 c i = K5 c i := fun c i h => by rw [← hK6, q_cp_c h]
  have eo : ∀ c i, c ≤ s ∨ s + 9 ≤ c ∨ c = s + 5 ∨ c = s + 6 → K6 c i = mem c i := fun c i h => by rw [d6 _ _ (by omega), d5 _ _ (by omega), d4 _ _ (by omega), d3 _ _ (by omega), d2 _ _ (by omega), d1 _ _ (by omega)]
  refine bkX7_copyWater_0 hs ho ?_ ?_
  · rw [hK1, hK2, hK3, hK4, hK5, hK6, q_up_c (by omega), eo _ _ (by omega)]; exact h9
  · rw [hK1, hK2, hK3, hK4, hK5, hK6, eo o 8 (by omega), q_up_c (show o ≠ s by omega), eo o 9 (by omega)]
    have g : q_fx (fun c i => c = s ∧ 8 ≤ i) K6 (q_up (q_up K6 s 8 (mem o 8)) s 9 (mem o 9)) := (q_fx.rf.up ⟨rfl, by decide⟩).up ⟨rfl, by decide⟩
    refine ⟨⟨fun i i0 i1 => ?_, fun i i0 i1 => ⟨?_, ?_, ?_⟩, fun i i0 i1 => ?_, fun i i0 i1 => ?_, ?_, q_up_s⟩, fun c i h => ?_⟩
    · rw [g _ _ (by omega), d6 _ _ (by omega), d5 _ _ (by omega), d4 _ _ (by omega), d3 _ _ (by omega), d2 _ _ (by omega), ← hK1, q_cp_s i0 i1]
    · rw [g _ _ (by omega), d6 _ _ (by omega), d5 _ _ (by omega), d4 _ _ (by omega), d3 _ _ (by omega), ← hK2, q_cp_s i0 i1, d1 _ _ (by omega)]
    · rw [g _ _ (by omega), d6 _ _ (by omega), d5 _ _ (by omega), d4 _ _ (by omega), ← hK3, q_cp_s i0 i1, d2 _ _ (by omega), d1 _ _ (by omega)]
    · rw [g _ _ (by omega), d6 _ _ (by omega), d5 _ _ (by omega), ← hK4, q_cp_s i0 i1, d3 _ _ (by omega), d2 _ _ (by omega), d1 _ _ (by omega)]
    · rw [g _ _ (by omega), d6 _ _ (by omega), ← hK5, q_cp_s i0 i1, d4 _ _ (by omega), d3 _ _ (by omega), d2 _ _ (by omega), d1 _ _ (by omega)]
    · rw [g _ _ (by omega), ← hK6, q_cp_s i0 i1, d5 _ _ (by omega), d4 _ _ (by omega), d3 _ _ (by omega), d2 _ _ (by omega), d1 _ _ (by omega)]
    · rw [q_up_i (by decide), q_up_s]
    · simp only [w_z] at h
      rw [g _ _ (by omega), eo _ _ (by omega)]
theorem sp_copyPipes {b s o : Int} {mem : qm} (hs : q_st s) (ho : q_st o) (far : s + 9 ≤ o ∨ o + 9 ≤ s) : q_Ev yX7_copyPipes cX7_copyPipes 2 none 1 0 0 [(2, s), (2, o)] (q_sh0, q_rb b, mem) (qK (q_rb b) (fun _ m => (∀ i, 0 ≤ i → i < 9 → m (s + 5) i = mem (o + 5) i ∧ m (s + 6) i = mem (o + 6) i) ∧ q_fr [s + 5, s + 6] mem m)) := by
  refine q_enter (by decide +kernel) (by simp) (Nat.le_of_ble_eq_true rfl) ?_
  refine bkX7_copyPipes_0 hs ho ⟨fun i i0 i1 => ⟨?_, ?_⟩, fun c hc i => ?_⟩
  · rw [q_cp_c (by omega), q_cp_s i0 i1]
  · rw [q_cp_s i0 i1, q_cp_c (by omega)]
  · simp at hc
    rw [q_cp_c hc.2, q_cp_c hc.1]
theorem i_W.cg {m m' : qm} {s s' n : Int} {dr lv wx db dr' lv' wx' db' : Int → Int} {be lo wt be' lo' wt' : Int} (h : i_W m s n dr lv wx db be lo wt) (hn : n ≤ 9) (hl : ∀ j, 0 ≤ j → j < n → lv j ≤ 60) (hc : w_cp m s m' s') (h1 : ∀ i, 0 ≤ i → i < 540 → dr' i = dr i) (h2 : ∀ j, 0 ≤ j → j < n → lv' j = lv j ∧ wx' j = wx j) (h3 : ∀ d, 0 ≤ d → d < 36 → db' d = db d) (h4 : be' = be) (h5 : lo' = lo) (h6 : wt' = wt) : i_W m' s' n dr' lv' wx' db' be' lo' wt' := by
  subst h4; subst h5; subst h6
  obtain ⟨a, b, d, e, f, g⟩ := h
  obtain ⟨c1, c2, c3, c4, c5, c6⟩ := hc
  refine ⟨fun j j0 j1 => ?_, fun d d0 d1 => ?_, c5.trans d, fun o o0 o1 => ?_, ?_, c6.trans g⟩
  · obtain ⟨p1, p2, p3, p4, p5⟩ := a j j0 j1
    obtain ⟨q1, q2, q3⟩ := c2 j j0 (by omega)
    obtain ⟨r1, r2⟩ := h2 j j0 j1
    have l6 := hl j j0 j1
    refine ⟨by omega, by omega, by omega, by omega, fun k k0 k1 => ?_⟩
    rw [q1, c1 _ (by omega) (by omega), h1 _ (by omega) (by omega)]
    exact p5 k k0 (by omega)
  · rw [c3 d d0 d1, h3 d d0 d1]; exact b d d0 d1
  · rw [c4 o o0 o1]; exact e o o0 o1
  · rw [c4 0 (by decide) (by decide), c4 1 (by decide) (by decide), c4 2 (by decide) (by decide), c4 3 (by decide) (by decide), c4 4 (by decide) (by decide), c4 5 (by decide) (by decide), c4 6 (by decide) (by decide)]; exact f
theorem i_V.cg {B n : Int} {hd dr lv wx db hd' dr' lv' wx' db' : Int → Int} {be lo wt be' lo' wt' : Int} (h : i_V B n hd dr lv wx db be lo wt) (hn : n ≤ 9) (hl : ∀ j, 0 ≤ j → j < n → hd j ≤ 60 ∧ hd' j = hd j) (h1 : ∀ i, 0 ≤ i → i < 540 → dr' i = dr i) (h2 : ∀ j, 0 ≤ j → j < n → lv' j = lv j ∧ wx' j = wx j) (h3 : ∀ d, 0 ≤ d → d < 36 → db' d = db d) (h4 : be' = be) (h5 : lo' = lo) (h6 : wt' = wt) : i_V B n hd' dr' lv' wx' db' be' lo' wt' := by
  subst h4; subst h5; subst h6
  obtain ⟨a, b, d, e⟩ := h
  refine ⟨fun j j0 j1 => ?_, fun d d0 d1 => ?_, fun x x0 x1 => ?_, e⟩
  · obtain ⟨p1, p2, p3, p4, p5⟩ := a j j0 j1
    obtain ⟨r1, r2⟩ := h2 j j0 j1
    have l6 := hl j j0 j1
    refine ⟨by omega, by omega, by omega, by omega, fun k k0 k1 => ?_⟩
    rw [h1 _ (by omega) (by omega)]
    exact p5 k k0 (by omega)
  · rw [h3 d d0 d1]; exact b d d0 d1
  · rw [h3 _ (by omega) (by omega)]; exact d x x0 x1
/-- the reference's water in one row -/
def y_L (m : qm) (i : Int) : Int := if i < 540 then m 196 i else if i < 558 then (if (i - 540) % 2 = 0 then m 190 ((i - 540) / 2) else m 195 ((i - 540) / 2)) else if i < 594 then m 197 (i - 558) else if i = 594 then m 188 10 else if i = 595 then m 188 11 else m 188 12
theorem y_L0 {m : qm} {i : Int} (h : i < 540) : y_L m i = m 196 i := by unfold y_L; rw [if_pos h]
theorem y_L1 {m : qm} {j : Int} (h : 0 ≤ j) (h1 : j < 9) : y_L m (540 + 2 * j) = m 190 j := by unfold y_L; rw [if_neg (by omega), if_pos (by omega), if_pos (by omega)]; congr 1; omega
theorem y_L2 {m : qm} {j : Int} (h : 0 ≤ j) (h1 : j < 9) : y_L m (540 + 2 * j + 1) = m 195 j := by unfold y_L; rw [if_neg (by omega), if_pos (by omega), if_neg (by omega)]; congr 1; omega
theorem y_L3 {m : qm} {d : Int} (h : 0 ≤ d) (h1 : d < 36) : y_L m (558 + d) = m 197 d := by unfold y_L; rw [if_neg (by omega), if_neg (by omega), if_pos (by omega)]; congr 1; omega
theorem y_L4 {m : qm} : y_L m 594 = m 188 10 := by unfold y_L; rw [if_neg (by omega), if_neg (by omega), if_neg (by omega), if_pos rfl]
theorem y_L5 {m : qm} : y_L m 595 = m 188 11 := by unfold y_L; rw [if_neg (by omega), if_neg (by omega), if_neg (by omega), if_neg (by omega), if_pos rfl]
theorem y_L6 {m : qm} : y_L m 596 = m 188 12 := by unfold y_L; rw [if_neg (by omega), if_neg (by omega), if_neg (by omega), if_neg (by omega), if_neg (by omega)]
theorem y_L_fr {m m' : qm} {X : Int → Int → Prop} (hf : q_fx X m m') (hd : ∀ c i, c = 190 ∨ c = 195 ∨ c = 196 ∨ c = 197 ∨ (c = 188 ∧ 10 ≤ i ∧ i ≤ 12) → ¬ X c i) (i : Int) : y_L m' i = y_L m i := by
  have e : ∀ c i, c = 190 ∨ c = 195 ∨ c = 196 ∨ c = 197 ∨ (c = 188 ∧ 10 ≤ i ∧ i ≤ 12) → m' c i = m c i := fun c i z => hf c i (hd c i z)
  unfold y_L
  rw [e 196 i (by omega), e 190 _ (by omega), e 195 _ (by omega), e 197 _ (by omega), e 188 10 (by omega), e 188 11 (by omega), e 188 12 (by omega)]
theorem sp_lay {b c p : Int} {N : Nat} {mem : qm} (hc : q_sh0[c.toNat]? = some (0, N)) (hc2 : c = 204 ∨ c = 205 ∨ c = 222) (hp : 0 ≤ p ∧ p + 597 ≤ N) (hN : N ≤ 10000) : q_Ev yX12_lay cX12_lay 5 none 1 0 0 [(2, 188), (2, c), (0, p)] (q_sh0, q_rb b, mem) (qK (q_rb b) (fun _ m => (∀ i, 0 ≤ i → i < 597 → m c (p + i) = y_L mem i) ∧ q_fx (fun c' i => c' = c ∧ p ≤ i ∧ i < p + 597) mem m)) := by
  refine q_enter (by decide +kernel) (by simp) (Nat.le_of_ble_eq_true rfl) ?_
  refine bkX12_lay_0 hc ?_
  have st : ∀ (m : qm) (i v : Int), 0 ≤ i → i < 597 → (∀ x, 0 ≤ x → x < i → m c (p + x) = y_L mem x) → v = y_L mem i → ∀ x, 0 ≤ x → x < i + 1 → q_up m c (p + i) v c (p + x) = y_L mem x := by
    intro m i v i0 i1 h hv x x0 x1
    by_cases hx : x = i
    · subst hx; rw [q_up_s]; exact hv
    · rw [q_up_i (by omega)]; exact h x x0 (by omega)
  -- the third loop
  have k3 : ∀ m : qm, (∀ x, 0 ≤ x → x < 558 → m c (p + x) = y_L mem x) → q_fx (fun c' i => c' = c ∧ p ≤ i ∧ i < p + 597) mem m → q_At yX12_lay cX12_lay 5 none 1 0 0 (qK (q_rb b) (fun _ m => (∀ i, 0 ≤ i → i < 597 → m c (p + i) = y_L mem i) ∧ q_fx (fun c' i => c' = c ∧ p ≤ i ∧ i < p + 597) mem m)) 92 [(2, 188), (2, c), (0, p), (0, p + 540 + 18), (0, 0)] [] (q_sh0, q_rb b, m) := by
    intro m0 a0 f0
    refine q_for (A := fun i m => q_At yX12_lay cX12_lay 5 none 1 0 0 _ 92 [(2, 188), (2, c), (0, p), (0, p + 540 + 18), (0, i)] [] (q_sh0, q_rb b, m)) (fun i m => 0 ≤ i ∧ i ≤ 36 ∧ (∀ x, 0 ≤ x → x < 558 + i → m c (p + x) = y_L mem x) ∧ q_fx (fun c' i => c' = c ∧ p ≤ i ∧ i < p + 597) mem m) 36 ?_ ?_ 0 m0 ⟨by omega, by omega, fun x x0 x1 => a0 x x0 (by omega), f0⟩
    · rintro i m hi ⟨i0, i1, a1, f1⟩
      have a1 : ∀ x, 0 ≤ x → x < 594 → m c (p + x) = y_L mem x := fun x x0 x1 => a1 x x0 (by omega)
      refine bkX12_lay_92 hc (fun _ => ⟨q_in_of (by omega) (by omega), by omega, q_in_of (by omega) (by omega), by omega, q_in_of (by omega) (by omega), by omega⟩) (fun _ => ?_) (fun z => absurd z (by omega)) (fun z => absurd z (by omega))
      rw [q_up_c (show (188 : Int) ≠ c by omega), q_up_c (show (188 : Int) ≠ c by omega), q_up_c (show (188 : Int) ≠ c by omega), f1 188 10 (by omega), f1 188 11 (by omega), f1 188 12 (by omega)]
      rw [show p + 540 + 18 + 36 = p + 594 by omega, show p + 594 + 1 = p + 595 by omega, show p + 594 + 2 = p + 596 by omega]
      refine ⟨?_, ((f1.up ⟨rfl, by omega, by omega⟩).up ⟨rfl, by omega, by omega⟩).up ⟨rfl, by omega, by omega⟩⟩
      exact st _ 596 _ (by decide) (by decide) (st _ 595 _ (by decide) (by decide) (st _ 594 _ (by decide) (by decide) a1 y_L4.symm) y_L5.symm) y_L6.symm
    · rintro i m hi ⟨i0, i1, a1, f1⟩ ih
      refine bkX12_lay_92 hc (fun z => absurd z (by omega)) (fun z => absurd z (by omega)) (fun _ => ⟨q_in_of (by omega) (by omega), by omega, by omega, q_in_of (by omega) (by omega)⟩) (fun _ => ?_)
      rw [f1 197 i (by omega), show p + 540 + 18 + i = p + (558 + i) by omega]
      exact ih _ ⟨by omega, by omega, by rw [show 558 + (i + 1) = 558 + i + 1 by omega]; exact st _ _ _ (by omega) (by omega) a1 (y_L3 i0 (by omega)).symm, f1.up ⟨rfl, by omega, by omega⟩⟩
  have k2 : ∀ m : qm, (∀ x, 0 ≤ x → x < 540 → m c (p + x) = y_L mem x) → q_fx (fun c' i => c' = c ∧ p ≤ i ∧ i < p + 597) mem m → q_At yX12_lay cX12_lay 5 none 1 0 0 (qK (q_rb b) (fun _ m => (∀ i, 0 ≤ i → i < 597 → m c (p + i) = y_L mem i) ∧ q_fx (fun c' i => c' = c ∧ p ≤ i ∧ i < p + 597) mem m)) 41 [(2, 188), (2, c), (0, p), (0, p + 540), (0, 0)] [] (q_sh0, q_rb b, m) := by
    intro m0 a0 f0
    refine q_for (A := fun i m => q_At yX12_lay cX12_lay 5 none 1 0 0 _ 41 [(2, 188), (2, c), (0, p), (0, p + 540), (0, i)] [] (q_sh0, q_rb b, m)) (fun i m => 0 ≤ i ∧ i ≤ 9 ∧ (∀ x, 0 ≤ x → x < 540 + 2 * i → m c (p + x) = y_L mem x) ∧ q_fx (fun c' i => c' = c ∧ p ≤ i ∧ i < p + 597) mem m) 9 ?_ ?_ 0 m0 ⟨by omega, by omega, fun x x0 x1 => a0 x x0 (by omega), f0⟩
    · rintro i m hi ⟨i0, i1, a1, f1⟩
      exact bkX12_lay_41 hc (fun _ => q_in_of (by omega) (by omega)) (fun _ => k3 m (fun x x0 x1 => a1 x x0 (by omega)) f1) (fun z => absurd z (by omega)) (fun z => absurd z (by omega))
    · rintro i m hi ⟨i0, i1, a1, f1⟩ ih
      refine bkX12_lay_41 hc (fun z => absurd z (by omega)) (fun z => absurd z (by omega)) (fun _ => ⟨q_in_of (by omega) (by omega), q_in_of (by omega) (by omega), by omega, by omega, q_in_of (by omega) (by omega), by omega, q_in_of (by omega) (by omega)⟩) (fun _ => ?_)
      rw [q_up_c (show (195 : Int) ≠ c by omega), f1 190 i (by omega), f1 195 i (by omega), show p + 540 + 2 * i = p + (540 + 2 * i) by omega, show p + (540 + 2 * i) + 1 = p + (540 + 2 * i + 1) by omega]
      exact ih _ ⟨by omega, by omega, by rw [show 540 + 2 * (i + 1) = 540 + 2 * i + 1 + 1 by omega]; exact st _ _ _ (by omega) (by omega) (st _ _ _ (by omega) (by omega) a1 (y_L1 i0 hi).symm) (y_L2 i0 hi).symm, (f1.up ⟨rfl, by omega, by omega⟩).up ⟨rfl, by omega, by omega⟩⟩
  refine q_for (A := fun i m => q_At yX12_lay cX12_lay 5 none 1 0 0 _ 5 [(2, 188), (2, c), (0, p), (0, p), (0, i)] [] (q_sh0, q_rb b, m)) (fun i m => 0 ≤ i ∧ i ≤ 540 ∧ (∀ x, 0 ≤ x → x < i → m c (p + x) = y_L mem x) ∧ q_fx (fun c' i => c' = c ∧ p ≤ i ∧ i < p + 597) mem m) 540 ?_ ?_ 0 mem ⟨by omega, by omega, fun x x0 x1 => absurd x0 (by omega), q_fx.rf⟩
  · rintro i m hi ⟨i0, i1, a1, f1⟩
    exact bkX12_lay_5 hc (fun _ => q_in_of (by omega) (by omega)) (fun _ => k2 m (fun x x0 x1 => a1 x x0 (by omega)) f1) (fun z => absurd z (by omega)) (fun z => absurd z (by omega))
  · rintro i m hi ⟨i0, i1, a1, f1⟩ ih
    refine bkX12_lay_5 hc (fun z => absurd z (by omega)) (fun z => absurd z (by omega)) (fun _ => ⟨q_in_of (by omega) (by omega), by omega, by omega, q_in_of (by omega) (by omega)⟩) (fun _ => ?_)
    rw [f1 196 i (by omega)]
    exact ih _ ⟨by omega, by omega, st _ _ _ (by omega) (by omega) a1 (y_L0 hi).symm, f1.up ⟨rfl, by omega, by omega⟩⟩
/-- the reference's water is as a row tells -/
def y_B (m : qm) (f : Int → Int) : Prop := (∀ i, 0 ≤ i → i < 540 → m 196 i = f i) ∧ (∀ j, 0 ≤ j → j < 9 → m 190 j = f (540 + 2 * j) ∧ m 195 j = f (540 + 2 * j + 1)) ∧ (∀ d, 0 ≤ d → d < 36 → m 197 d = f (558 + d)) ∧ m 188 10 = f 594 ∧ m 188 11 = f 595 ∧ m 188 12 = f 596
theorem sp_bring {b c p : Int} {N : Nat} {mem : qm} (hc : q_sh0[c.toNat]? = some (0, N)) (hc2 : c = 204 ∨ c = 205 ∨ c = 222) (hp : 0 ≤ p ∧ p + 597 ≤ N) (hN : N ≤ 10000) : q_Ev yX12_bring cX12_bring 5 none 1 0 0 [(2, 188), (2, c), (0, p)] (q_sh0, q_rb b, mem) (qK (q_rb b) (fun _ m => y_B m (fun i => mem c (p + i)) ∧ q_fx (fun c i => c = 190 ∨ c = 195 ∨ c = 196 ∨ c = 197 ∨ (c = 188 ∧ 10 ≤ i ∧ i ≤ 12)) mem m)) := by
  refine q_enter (by decide +kernel) (by simp) (Nat.le_of_ble_eq_true rfl) ?_
  refine bkX12_bring_0 hc ?_
  have k3 : ∀ m : qm, (∀ i, 0 ≤ i → i < 540 → m 196 i = mem c (p + i)) → (∀ j, 0 ≤ j → j < 9 → m 190 j = mem c (p + (540 + 2 * j)) ∧ m 195 j = mem c (p + (540 + 2 * j + 1))) → q_fx (fun c i => c = 190 ∨ c = 195 ∨ c = 196 ∨ c = 197 ∨ (c = 188 ∧ 10 ≤ i ∧ i ≤ 12)) mem m → q_At yX12_bring cX12_bring 5 none 1 0 0 (qK (q_rb b) (fun _ m => y_B m (fun i => mem c (p + i)) ∧ q_fx (fun c i => c = 190 ∨ c = 195 ∨ c = 196 ∨ c = 197 ∨ (c = 188 ∧ 10 ≤ i ∧ i ≤ 12)) mem m)) 92 [(2, 188), (2, c), (0, p), (0, p + 540 + 18), (0, 0)] [] (q_sh0, q_rb b, m) := by
    intro m0 a0 c0 f0
    refine q_for (A := fun i m => q_At yX12_bring cX12_bring 5 none 1 0 0 _ 92 [(2, 188), (2, c), (0, p), (0, p + 540 + 18), (0, i)] [] (q_sh0, q_rb b, m)) (fun i m => 0 ≤ i ∧ i ≤ 36 ∧ (∀ i, 0 ≤ i → i < 540 → m 196 i = mem c (p + i)) ∧ (∀ j, 0 ≤ j → j < 9 → m 190 j = mem c (p + (540 + 2 * j)) ∧ m 195 j = mem c (p + (540 + 2 * j + 1))) ∧ (∀ d, 0 ≤ d → d < i → m 197 d = mem c (p + (558 + d))) ∧ q_fx (fun c i => c = 190 ∨ c = 195 ∨ c = 196 ∨ c = 197 ∨ (c = 188 ∧ 10 ≤ i ∧ i ≤ 12)) mem m) 36 ?_ ?_ 0 m0 ⟨by omega, by omega, a0, c0, fun d d0 d1 => absurd d0 (by omega), f0⟩
    · rintro i m hi ⟨i0, i1, a1, c1, d1, f1⟩
      refine bkX12_bring_92 hc (fun _ => ⟨q_in_of (by omega) (by omega), by omega, q_in_of (by omega) (by omega), by omega, q_in_of (by omega) (by omega), by omega⟩) (fun _ => ?_) (fun z => absurd z (by omega)) (fun z => absurd z (by omega))
      have ec : c ≠ 188 := by omega
      rw [q_up_c ec, q_up_c ec, q_up_c ec, f1 c _ (by omega), f1 c _ (by omega), f1 c _ (by omega), show p + 540 + 18 + 36 = p + 594 by omega, show p + 594 + 1 = p + 595 by omega, show p + 594 + 2 = p + 596 by omega]
      have g : ∀ x y z : Int, q_fx (fun c i => c = 188 ∧ 10 ≤ i ∧ i ≤ 12) m (q_up (q_up (q_up m 188 10 x) 188 11 y) 188 12 z) := fun x y z => ((q_fx.rf.up ⟨rfl, by decide, by decide⟩).up ⟨rfl, by decide, by decide⟩).up ⟨rfl, by decide, by decide⟩
      refine ⟨⟨fun i i0 i1 => (g _ _ _ _ _ (by omega)).trans (a1 i i0 i1), fun j j0 j1 => ⟨(g _ _ _ _ _ (by omega)).trans (c1 j j0 j1).1, (g _ _ _ _ _ (by omega)).trans (c1 j j0 j1).2⟩, fun d d0 d2 => (g _ _ _ _ _ (by omega)).trans (d1 d d0 (by omega)), ?_, ?_, q_up_s⟩, f1.tr ((g _ _ _).mono (fun c i z => by omega))⟩
      · rw [q_up_i (by decide), q_up_i (by decide), q_up_s]
      · rw [q_up_i (by decide), q_up_s]
    · rintro i m hi ⟨i0, i1, a1, c1, d1, f1⟩ ih
      refine bkX12_bring_92 hc (fun z => absurd z (by omega)) (fun z => absurd z (by omega)) (fun _ => ⟨q_in_of (by omega) (by omega), by omega, by omega, q_in_of (by omega) (by omega)⟩) (fun _ => ?_)
      rw [f1 c _ (by omega), show p + 540 + 18 + i = p + (558 + i) by omega]
      refine ih _ ⟨by omega, by omega, fun i i0 i1 => by rw [q_up_c (by decide)]; exact a1 i i0 i1, fun j j0 j1 => by rw [q_up_c (by decide), q_up_c (by decide)]; exact c1 j j0 j1, fun d d0 d2 => ?_, f1.up (by omega)⟩
      by_cases hd : d = i
      · subst hd; exact q_up_s
      · rw [q_up_i hd]; exact d1 d d0 (by omega)
  have k2 : ∀ m : qm, (∀ i, 0 ≤ i → i < 540 → m 196 i = mem c (p + i)) → q_fx (fun c i => c = 190 ∨ c = 195 ∨ c = 196 ∨ c = 197 ∨ (c = 188 ∧ 10 ≤ i ∧ i ≤ 12)) mem m → q_At yX12_bring cX12_bring 5 none 1 0 0 (qK (q_rb b) (fun _ m => y_B m (fun i => mem c (p + i)) ∧ q_fx (fun c i => c = 190 ∨ c = 195 ∨ c = 196 ∨ c = 197 ∨ (c = 188 ∧ 10 ≤ i ∧ i ≤ 12)) mem m)) 41 [(2, 188), (2, c), (0, p), (0, p + 540), (0, 0)] [] (q_sh0, q_rb b, m) := by
    intro m0 a0 f0
    refine q_for (A := fun i m => q_At yX12_bring cX12_bring 5 none 1 0 0 _ 41 [(2, 188), (2, c), (0, p), (0, p + 540), (0, i)] [] (q_sh0, q_rb b, m)) (fun i m => 0 ≤ i ∧ i ≤ 9 ∧ (∀ i, 0 ≤ i → i < 540 → m 196 i = mem c (p + i)) ∧ (∀ j, 0 ≤ j → j < i → m 190 j = mem c (p + (540 + 2 * j)) ∧ m 195 j = mem c (p + (540 + 2 * j + 1))) ∧ q_fx (fun c i => c = 190 ∨ c = 195 ∨ c = 196 ∨ c = 197 ∨ (c = 188 ∧ 10 ≤ i ∧ i ≤ 12)) mem m) 9 ?_ ?_ 0 m0 ⟨by omega, by omega, a0, fun d d0 d1 => absurd d0 (by omega), f0⟩
    · rintro i m hi ⟨i0, i1, a1, c1, f1⟩
      exact bkX12_bring_41 hc (fun _ => q_in_of (by omega) (by omega)) (fun _ => k3 m a1 (fun j j0 j1 => c1 j j0 (by omega)) f1) (fun z => absurd z (by omega)) (fun z => absurd z (by omega))
    · rintro i m hi ⟨i0, i1, a1, c1, f1⟩ ih
      refine bkX12_bring_41 hc (fun z => absurd z (by omega)) (fun z => absurd z (by omega)) (fun _ => ⟨q_in_of (by omega) (by omega), q_in_of (by omega) (by omega), by omega, by omega, q_in_of (by omega) (by omega), by omega, q_in_of (by omega) (by omega)⟩) (fun _ => ?_)
      rw [q_up_c (show c ≠ 190 by omega), f1 c _ (by omega), f1 c _ (by omega), show p + 540 + 2 * i = p + (540 + 2 * i) by omega, show p + (540 + 2 * i) + 1 = p + (540 + 2 * i + 1) by omega]
      refine ih _ ⟨by omega, by omega, fun i i0 i1 => by rw [q_up_c (by decide), q_up_c (by decide)]; exact a1 i i0 i1, fun j j0 j1 => ?_, (f1.up (by omega)).up (by omega)⟩
      by_cases hd : j = i
      · subst hd; exact ⟨by rw [q_up_c (by decide), q_up_s], q_up_s⟩
      · rw [q_up_c (by decide), q_up_i hd, q_up_i hd, q_up_c (by decide)]; exact c1 j j0 (by omega)
  refine q_for (A := fun i m => q_At yX12_bring cX12_bring 5 none 1 0 0 _ 5 [(2, 188), (2, c), (0, p), (0, p), (0, i)] [] (q_sh0, q_rb b, m)) (fun i m => 0 ≤ i ∧ i ≤ 540 ∧ (∀ x, 0 ≤ x → x < i → m 196 x = mem c (p + x)) ∧ q_fx (fun c i => c = 190 ∨ c = 195 ∨ c = 196 ∨ c = 197 ∨ (c = 188 ∧ 10 ≤ i ∧ i ≤ 12)) mem m) 540 ?_ ?_ 0 mem ⟨by omega, by omega, fun x x0 x1 => absurd x0 (by omega), q_fx.rf⟩
  · rintro i m hi ⟨i0, i1, a1, f1⟩
    exact bkX12_bring_5 hc (fun _ => q_in_of (by omega) (by omega)) (fun _ => k2 m (fun x x0 x1 => a1 x x0 (by omega)) f1) (fun z => absurd z (by omega)) (fun z => absurd z (by omega))
  · rintro i m hi ⟨i0, i1, a1, f1⟩ ih
    refine bkX12_bring_5 hc (fun z => absurd z (by omega)) (fun z => absurd z (by omega)) (fun _ => ⟨q_in_of (by omega) (by omega), by omega, by omega, q_in_of (by omega) (by omega)⟩) (fun _ => ?_)
    rw [f1 c _ (by omega)]
    refine ih _ ⟨by omega, by omega, fun x x0 x1 => ?_, f1.up (by omega)⟩
    by_cases hd : x = i
    · subst hd; exact q_up_s
    · rw [q_up_i hd]; exact a1 x x0 (by omega)
