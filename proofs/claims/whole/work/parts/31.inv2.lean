abbrev x_L (c i : Int) : Prop := (c = 149 ∧ i = 5) ∨ c = 151 ∨ (c = 188 ∧ i = 25) ∨ c = 201 ∨ (c = 188 ∧ i = 51)
/-- a word on the laws reads these places alone -/
def i_Lf (LW : qm → Prop) : Prop := ∀ (X : Int → Int → Prop) (m m' : qm), LW m → q_fx X m m' → (∀ c i, x_L c i → ¬ X c i) → LW m'
/-- what holds behind k calls; LW: the class's law and the reference's are alike -/
def i_I (LW : qm → Prop) (k : Nat) (m : qm) : Prop := ∃ n : Nat, i_T n m ∧ i_P n m ∧ i_N (1500 * k) n m ∧ i_X m ∧ i_R m ∧ i_S n m ∧ i_U (1500 * k) n m ∧ i_K (1500 * k) n m ∧ LW m
/-- the reference's answer, and what holds behind both calls -/
def i_O (LW : qm → Prop) (k : Nat) (r : Int) : Int → qh → Prop := fun r' σ => r' = r ∧ ∃ (b : Int) (m : qm), σ = (q_sh0, q_rb b, m) ∧ i_I LW k m
theorem i_N.mo {B B' : Int} {n : Nat} {m : qm} (h : i_N B n m) (hb : B ≤ B') : i_N B' n m := ⟨h.1, h.2.mo hb⟩
theorem i_U.mo {B B' : Int} {n : Nat} {m : qm} (h : i_U B n m) (hb : B ≤ B') : i_U B' n m := by
  obtain ⟨a, b, c, d, e, f⟩ := h
  exact ⟨a, b, c, d, e, fun r r0 r1 => (f r r0 r1).mo hb⟩
theorem i_K.mo {B B' : Int} {n : Nat} {m : qm} (h : i_K B n m) (hb : B ≤ B') : i_K B' n m := by
  obtain ⟨a, g⟩ := h
  refine ⟨a, fun i i0 i1 => ?_⟩
  obtain ⟨g1, g2, g3, g4, g5, g6⟩ := g i i0 i1
  exact ⟨g1, g2, g3, g4, g5, fun z => ⟨(g6 z).1.mo hb, (g6 z).2⟩⟩
/-- all places that are read, but the row's -/
abbrev x_A (c i : Int) : Prop := x_T c i ∨ x_P c i ∨ x_N c i ∨ x_X c i ∨ x_S c i ∨ x_U c i ∨ x_K c i ∨ x_L c i
theorem i_I.keepR {LW : qm → Prop} (hL : i_Lf LW) {k : Nat} {m m' : qm} {X : Int → Int → Prop} (I : i_I LW k m) (hf : q_fx X m m') (hd : ∀ c i, x_A c i → ¬ X c i) (hR : i_R m') : i_I LW (k + 1) m' := by
  obtain ⟨n, t, p, a, x, r, s, u, kk, l⟩ := I
  have hb : (1500 * (k : Int)) ≤ 1500 * ((k + 1 : Nat) : Int) := by omega
  exact ⟨n, t.fr hf (fun c i z => hd c i (by simp only [x_A]; exact Or.inl z)), p.fr hf (fun c i z => hd c i (Or.inr (Or.inl z))), (a.fr hf (fun c i z => hd c i (Or.inr (Or.inr (Or.inl z))))).mo hb, x.fr hf (fun c i z => hd c i (Or.inr (Or.inr (Or.inr (Or.inl z))))), hR, s.fr hf (fun c i z => hd c i (Or.inr (Or.inr (Or.inr (Or.inr (Or.inl z)))))), (u.fr hf (fun c i z => hd c i (Or.inr (Or.inr (Or.inr (Or.inr (Or.inr (Or.inl z)))))))).mo hb, (kk.fr hf (fun c i z => hd c i (Or.inr (Or.inr (Or.inr (Or.inr (Or.inr (Or.inr (Or.inl z))))))))).mo hb, hL X m m' l hf (fun c i z => hd c i (Or.inr (Or.inr (Or.inr (Or.inr (Or.inr (Or.inr (Or.inr z))))))))⟩
theorem i_I.keep {LW : qm → Prop} (hL : i_Lf LW) {k : Nat} {m m' : qm} {X : Int → Int → Prop} (I : i_I LW k m) (hf : q_fx X m m') (hd : ∀ c i, x_A c i ∨ x_R c i → ¬ X c i) : i_I LW (k + 1) m' := by
  have I2 := I
  obtain ⟨n, t, p, a, x, r, s, u, kk, l⟩ := I2
  exact I.keepR hL hf (fun c i z => hd c i (Or.inl z)) (r.fr hf (fun c i z => hd c i (Or.inr z)))
/-- the class's flow, started from now: well, and like the reference's -/
theorem i_flow {B : Int} {n : Nat} {m m1 : qm} (t : i_T n m) (p : i_P n m) (a : i_N B n m) (h1 : ∀ i, 0 ≤ i → i < 9 → m1 27 i = m 8 i ∧ m1 28 i = m 10 i ∧ m1 29 i = m 11 i ∧ m1 30 i = m 9 i ∧ m1 32 i = -1) (h2 : m1 26 7 = 0) (h3 : m1 26 8 = 0) (hf : q_fr [26, 27, 28, 29, 30, 32] m m1) :
    f_wf n m1 ∧ f_en n (m1 29) (m 194) ∧ f_en n (m1 2) (m 189) ∧ f_en n (m1 28) (m 191) ∧ f_eq n (f_C m1) (m 190, m 195, 0) ∧ f_OK n (m 194) (m 189) (m 191) (m 190, m 195, 0) := by
  obtain ⟨t1, t2, t3, t4⟩ := t
  have e : f_en n (m1 29) (m 194) ∧ f_en n (m1 2) (m 189) ∧ f_en n (m1 28) (m 191) ∧ f_eq n (f_C m1) (m 190, m 195, 0) := by
    refine ⟨fun j a0 a1 => ?_, fun j a0 a1 => ?_, fun j a0 a1 => ?_, fun j a0 a1 => ⟨?_, ?_⟩, h2⟩
    · rw [(h1 j a0 (by omega)).2.2.1]; exact (p j a0 a1).2.2.2.1
    · rw [hf 2 (by decide) j]; exact (t4 j a0 a1).1
    · rw [(h1 j a0 (by omega)).2.1]; exact (p j a0 a1).1
    · show m1 27 j = m 190 j
      rw [(h1 j a0 (by omega)).1]; exact (a.1.1 j a0 a1).1
    · show m1 30 j = m 195 j
      rw [(h1 j a0 (by omega)).2.2.2.1]; exact (a.1.1 j a0 a1).2.1
  have ok : f_OK n (m 194) (m 189) (m 191) (m 190, m 195, 0) := by
    refine ⟨t1, fun j a0 a1 => ?_⟩
    have z1 := p j a0 a1
    have z2 := t4 j a0 a1
    have z3 := a.2.1 j a0 a1
    refine ⟨?_, by omega, by omega, z1.2.1, z1.2.2.1, z3.2.2.1, z3.2.2.2.1, z3.1, z3.2.1⟩
    rcases z1.2.2.2.2 with h | h
    · exact Or.inl h
    · exact Or.inr ⟨h.1, h.2.1⟩
  refine ⟨⟨(hf 1 (by decide) 3).trans t2, ?_, Or.inl h3⟩, e.1, e.2.1, e.2.2.1, e.2.2.2, ok⟩
  exact ok.en (fun j a0 a1 => (e.1 j a0 a1).symm) (fun j a0 a1 => (e.2.1 j a0 a1).symm) (fun j a0 a1 => (e.2.2.1 j a0 a1).symm) e.2.2.2.sy
/-- the reference's, begun from now -/
theorem i_mflow {B : Int} {n : Nat} {m m1 : qm} (t : i_T n m) (p : i_P n m) (a : i_N B n m) (h1 : ∀ i : Int, 0 ≤ i → i < n → m1 207 i = m 190 i ∧ m1 208 i = m 195 i ∧ m1 209 i = m 191 i) (hf : q_fr [207, 208, 209] m m1) :
    f_mok n m1 ∧ m1 194 = m 194 ∧ m1 189 = m 189 ∧ f_en n (m1 209) (m 191) ∧ (∀ x, f_eq n (f_M m1 x) (m 190, m 195, x)) ∧ f_OK n (m 194) (m 189) (m 191) (m 190, m 195, 0) := by
  obtain ⟨t1, t2, t3, t4⟩ := t
  have e : ∀ x, f_eq n (f_M m1 x) (m 190, m 195, x) := fun x => ⟨fun j a0 a1 => ⟨(h1 j a0 a1).1, (h1 j a0 a1).2.1⟩, rfl⟩
  have ok : f_OK n (m 194) (m 189) (m 191) (m 190, m 195, 0) := by
    refine ⟨t1, fun j a0 a1 => ?_⟩
    have z1 := p j a0 a1
    have z2 := t4 j a0 a1
    have z3 := a.2.1 j a0 a1
    refine ⟨?_, by omega, by omega, z1.2.1, z1.2.2.1, z3.2.2.1, z3.2.2.2.1, z3.1, z3.2.1⟩
    rcases z1.2.2.2.2 with h | h
    · exact Or.inl h
    · exact Or.inr ⟨h.1, h.2.1⟩
  have e1 : m1 194 = m 194 := funext (hf 194 (by decide))
  have e2 : m1 189 = m 189 := funext (hf 189 (by decide))
  refine ⟨⟨(hf 188 (by decide) 0).trans t3, ?_⟩, e1, e2, fun j a0 a1 => (h1 j a0 a1).2.2, e, ok⟩
  rw [e1, e2]
  exact ok.en (fun _ _ _ => rfl) (fun _ _ _ => rfl) (fun j a0 a1 => ((h1 j a0 a1).2.2).symm) (e 0).sy
