/-! ===== what a law is: the class's steps run ===== -/
theorem c_run_ext {e e' : Int → Int} (h : ∀ i, 0 ≤ i → i < 10 → e i = e' i) : ∀ (c st : List Int), c_run e c st = c_run e' c st := by
  intro c
  induction c with
  | nil => intro st; rfl
  | cons x c ih =>
    intro st
    rw [c_run_cons, c_run_cons, ih]
    congr 1
    unfold c_st
    split
    · rfl
    · split
      · rfl
      · split
        · rename_i z; rw [h _ (by omega) (by omega)]
        · rfl
theorem c_val_ext {e e' : Int → Int} (h : ∀ i, 0 ≤ i → i < 10 → e i = e' i) (c : List Int) : c_val e c = c_val e' c := by unfold c_val; rw [c_run_ext h]
def l_cC (m : qm) (C : List Int) : Prop := m 149 5 = C.length ∧ C.length ≤ 40 ∧ (∀ x ∈ C, 0 ≤ x ∧ x ≤ 4000) ∧ (∀ i : Nat, i < C.length → m 151 i = C.getD i 0) ∧ (C ≠ [] → l_W C)
def l_cR (m : qm) (C : List Int) : Prop := 0 ≤ m 188 25 ∧ m 188 25 ≤ 40 ∧ (m 188 25 = 0 ↔ C = []) ∧ (m 188 25 ≠ 0 → ∃ S : Int → Int, l_p S (m 188 25) 325 5 0 (0, -1) = ((m 188 25, -1), C) ∧ ∀ i, 0 ≤ i → i < m 188 25 → (m 201 i = S i ∧ 0 ≤ S i) ∨ (S i = -1 ∧ m 201 i < 0))
theorem l_cC.fr {m m' : qm} {C : List Int} {X : Int → Int → Prop} (h : l_cC m C) (hf : q_fx X m m') (hd : ∀ c i, (c = 149 ∧ i = 5) ∨ c = 151 → ¬ X c i) : l_cC m' C :=
  ⟨(hf _ _ (hd _ _ (Or.inl ⟨rfl, rfl⟩))).trans h.1, h.2.1, h.2.2.1, fun i hi => (hf _ _ (hd _ _ (Or.inr rfl))).trans (h.2.2.2.1 i hi), h.2.2.2.2⟩
theorem l_cR.fr {m m' : qm} {C : List Int} {X : Int → Int → Prop} (h : l_cR m C) (hf : q_fx X m m') (hd : ∀ c i, (c = 188 ∧ i = 25) ∨ c = 201 → ¬ X c i) : l_cR m' C := by
  have e := hf 188 25 (hd _ _ (Or.inl ⟨rfl, rfl⟩))
  unfold l_cR
  rw [e]
  refine ⟨h.1, h.2.1, h.2.2.1, fun z => ?_⟩
  obtain ⟨S, a, b⟩ := h.2.2.2 z
  exact ⟨S, a, fun i i0 i1 => by rw [hf 201 i (hd _ _ (Or.inr rfl))]; exact b i i0 i1⟩
def w_sk (m : qm) (st : List Int) : Prop := ∀ k : Nat, k < st.length → m 152 ((st.length : Int) - 1 - k) = st.getD k 0
theorem sp_joinedC {b v x y : Int} {m : qm} : q_Ev yX2_joined cX2_joined 3 (some .int) 1 0 0 [(0, v), (0, x), (0, y)] (q_sh0, q_rb b, m) (qK (q_rb b) (fun r m' => m' = m ∧ r = l_jo v x y)) := by
  refine q_enter (by decide +kernel) (by simp) (Nat.le_of_ble_eq_true rfl) ?_
  refine bkX2_joined_0 (fun z => ?_) (fun _ z => ?_) (fun _ _ z => ?_) (fun _ _ _ z w => ?_) (fun _ _ _ z w => ?_) (fun _ _ _ _ z w => ?_) (fun _ _ _ _ z w => ?_) (fun _ _ _ _ _ z w => ?_) (fun _ _ _ _ _ z w => ?_) (fun _ _ _ _ _ _ z => z) (fun a1 a2 a3 a4 a5 a6 w => ?_) (fun a1 a2 a3 a4 a5 a6 w => ?_)
  · subst z; exact ⟨rfl, rfl⟩
  · subst z; exact ⟨rfl, rfl⟩
  · subst z; exact ⟨rfl, rfl⟩
  · subst z; refine ⟨rfl, ?_⟩; unfold l_jo; rw [if_pos rfl, if_neg (by omega)]
  · subst z; refine ⟨rfl, ?_⟩; unfold l_jo; rw [if_pos rfl, if_pos w]
  · subst z; refine ⟨rfl, ?_⟩; unfold l_jo; rw [if_neg (by decide), if_neg (by decide), if_pos rfl, if_neg w]
  · subst z; refine ⟨rfl, ?_⟩; unfold l_jo; rw [if_neg (by decide), if_neg (by decide), if_pos rfl, if_pos w]
  · subst z; refine ⟨rfl, ?_⟩; unfold l_jo; rw [if_neg (by decide), if_pos rfl, if_neg (by omega)]
  · subst z; refine ⟨rfl, ?_⟩; unfold l_jo; rw [if_neg (by decide), if_pos rfl, if_pos w]
  · refine ⟨rfl, ?_⟩; unfold l_jo; rw [if_neg a4, if_neg a6, if_neg a5, if_neg a2, if_neg a3, if_neg a1, if_neg w]
  · refine ⟨rfl, ?_⟩; unfold l_jo; rw [if_neg a4, if_neg a6, if_neg a5, if_neg a2, if_neg a3, if_neg a1, if_pos w]
theorem sp_valueOfC {b v : Int} {m : qm} (hv : 0 ≤ v ∧ v ≤ 4000) : q_Ev yX2_valueOf cX2_valueOf 3 (some .int) 1 0 0 [(2, 149), (0, v)] (q_sh0, q_rb b, m) (qK (q_rb b) (fun r m' => m' = m ∧ r = (if 1000 ≤ v ∧ v < 1010 then m 153 (v - 1000) else v))) := by
  refine q_enter (by decide +kernel) (by simp) (Nat.le_of_ble_eq_true rfl) ?_
  exact bkX2_valueOf_0 (q_in_of (by omega) (by omega)) (fun z => ⟨rfl, by rw [if_neg (by omega)]⟩) (fun z y => ⟨rfl, by rw [if_neg (by omega)]⟩) (fun z y => ⟨z, y⟩) (fun z y => ⟨rfl, by rw [if_pos (by omega)]⟩)
theorem sp_worthC {b : Int} {m : qm} {C : List Int} (h : l_cC m C) (hC : C ≠ []) : q_Ev yX2_worth cX2_worth 4 (some .int) 2 0 0 [(2, 149)] (q_sh0, q_rb b, m) (qK (q_rb b) (fun r m' => r = c_val (m 153) C ∧ q_fx (fun c _ => c = 152) m m')) := by
  obtain ⟨h1, h2, h3, h4, h5⟩ := h
  have hW := h5 hC
  have go : ∀ (R P : List Int) (m' : qm), P ++ R = C → w_sk m' (c_run (m 153) P []) → l_sf R (c_run (m 153) P []).length → (c_run (m 153) P []).length ≤ P.length → q_fx (fun c _ => c = 152) m m' → q_At yX2_worth cX2_worth 4 (some .int) 2 0 0 (qK (q_rb b) (fun r m' => r = c_val (m 153) C ∧ q_fx (fun c _ => c = 152) m m')) 4 [(2, 149), (0, ((c_run (m 153) P []).length : Int)), (0, (P.length : Int)), (4, 0)] [] (q_sh0, q_rb b, m') := by
    intro R
    induction R with
    | nil =>
      intro P m' hP sk sf hl fx
      rw [List.append_nil] at hP
      subst hP
      have e5 : m' 149 5 = P.length := (fx 149 5 (by simp)).trans h1
      have er : c_run (m 153) P [] = [c_val (m 153) P] := hW.1 (m 153) []
      have s0 := sk 0 (by rw [er]; simp)
      rw [er] at s0
      have s0 : m' 152 0 = c_val (m 153) P := s0
      exact bkX2_worth_4 (P5 := fun _ _ => True) (P8 := fun _ _ => True) (P12 := fun _ _ => True) (P15 := fun _ _ => True) (P16 := fun _ _ => True) (by intros; (repeat' (first | (refine And.intro ?_ ?_) | (refine q_in_of ?_ ?_))) <;> omega) (fun _ => ⟨s0, fx⟩) (by intros; (repeat' (first | (refine And.intro ?_ ?_) | (refine q_in_of ?_ ?_))) <;> omega) (by intros; (repeat' (first | (refine And.intro ?_ ?_) | (refine q_in_of ?_ ?_))) <;> omega) (by intros; exfalso; omega) (by intros; exfalso; omega) (by intros; (repeat' (first | (refine And.intro ?_ ?_) | (refine q_in_of ?_ ?_))) <;> omega) (by intros; exfalso; omega) (by intros; (repeat' (first | (refine And.intro ?_ ?_) | (refine q_in_of ?_ ?_))) <;> omega) (by intros; exfalso; omega) (by intros; exfalso; omega) (by intros; (repeat' (first | (refine And.intro ?_ ?_) | (refine q_in_of ?_ ?_))) <;> omega) (by intros; exfalso; omega) (by intros; (repeat' (first | (refine And.intro ?_ ?_) | (refine q_in_of ?_ ?_))) <;> omega) (by intros; exfalso; omega) (by intros; (repeat' (first | (refine And.intro ?_ ?_) | (refine q_in_of ?_ ?_))) <;> omega) (by intros; exfalso; omega) (by intros; exfalso; omega) (by intros; (repeat' (first | (refine And.intro ?_ ?_) | (refine q_in_of ?_ ?_))) <;> omega) (by intros; exfalso; omega) (by intros; (repeat' (first | (refine And.intro ?_ ?_) | (refine q_in_of ?_ ?_))) <;> omega) (by intros; exfalso; omega) (by intros; exfalso; omega) (by intros; (repeat' (first | (refine And.intro ?_ ?_) | (refine q_in_of ?_ ?_))) <;> omega) (by intros; exfalso; omega) (by intros; (repeat' (first | (refine And.intro ?_ ?_) | (refine q_in_of ?_ ?_))) <;> omega) (by intros; exfalso; omega) (by intros; (repeat' (first | (refine And.intro ?_ ?_) | (refine q_in_of ?_ ?_))) <;> omega) (by intros; exfalso; omega) (by intros; (repeat' (first | (refine And.intro ?_ ?_) | (refine q_in_of ?_ ?_))) <;> omega) (by intros; exfalso; omega)
    | cons x R ih =>
      intro P m' hP sk sf hl fx
      have hlen : P.length < C.length := by rw [← hP, List.length_append, List.length_cons]; omega
      have e5 : m' 149 5 = C.length := (fx 149 5 (by simp)).trans h1
      have ex : m' 151 (P.length : Int) = x := by
        rw [fx 151 _ (by simp), h4 P.length hlen, ← hP, List.getD_eq_getElem?_getD, List.getElem?_append_right (Nat.le_refl _)]; simp
      have hx := h3 x (by rw [← hP]; exact List.mem_append_right _ List.mem_cons_self)
      have e153 : ∀ i, m' 153 i = m 153 i := fun i => fx 153 i (by simp)
      have run1 : c_run (m 153) (P ++ [x]) [] = c_st (m 153) (c_run (m 153) P []) x := by rw [c_run_app]; rfl
      have len1 : (P ++ [x]).length = P.length + 1 := by rw [List.length_append]; rfl
      have next : ∀ m2, w_sk m2 (c_st (m 153) (c_run (m 153) P []) x) → l_sf R (c_st (m 153) (c_run (m 153) P []) x).length → (c_st (m 153) (c_run (m 153) P []) x).length ≤ P.length + 1 → q_fx (fun c _ => c = 152) m m2 → q_At yX2_worth cX2_worth 4 (some .int) 2 0 0 (qK (q_rb b) (fun r m' => r = c_val (m 153) C ∧ q_fx (fun c _ => c = 152) m m')) 4 [(2, 149), (0, ((c_st (m 153) (c_run (m 153) P []) x).length : Int)), (0, (P.length : Int) + 1), (4, 0)] [] (q_sh0, q_rb b, m2) := by
        intro m2 k1 k2 k3 k4
        have q := ih (P ++ [x]) m2 (by rw [List.append_assoc]; exact hP) (by rw [run1]; exact k1) (by rw [run1]; exact k2) (by rw [run1, len1]; exact k3) k4
        rw [run1, len1] at q
        exact q
      generalize c_run (m 153) P [] = st at sk sf hl next
      by_cases c1 : 3000 ≤ x
      · obtain ⟨k2, sf'⟩ := (l_sf_op c1).mp sf
        obtain ⟨b0, a0, st', rfl⟩ : ∃ b0 a0 st', st = b0 :: a0 :: st' := by
          match st, k2 with
          | b0 :: a0 :: st', _ => exact ⟨b0, a0, st', rfl⟩
        rw [c_st_op c1] at next
        have s0 := sk 0 (by simp)
        have s1 := sk 1 (by simp)
        simp only [List.length_cons, List.getD_cons_zero, List.getD_cons_succ] at s0 s1 hl sf' next ⊢
        have s0 : m' 152 (((st'.length + 1 + 1 : Nat) : Int) + (-1)) = b0 := by rw [← s0]; exact congrArg (m' 152) (by omega)
        have s1 : m' 152 (((st'.length + 1 + 1 : Nat) : Int) + (-1) - 1) = a0 := by rw [← s1]; exact congrArg (m' 152) (by omega)
        refine bkX2_worth_4 (P5 := fun _ _ => True) (P8 := fun _ _ => True) (P12 := fun _ _ => True) (P15 := fun _ _ => True) (P16 := fun r m2 => m2 = m' ∧ r = l_jo (x - 3000) a0 b0) (by intros; (repeat' (first | (refine And.intro ?_ ?_) | (refine q_in_of ?_ ?_))) <;> omega) (by intros; exfalso; omega) (by intros; (repeat' (first | (refine And.intro ?_ ?_) | (refine q_in_of ?_ ?_))) <;> omega) (by intros; (repeat' (first | (refine And.intro ?_ ?_) | (refine q_in_of ?_ ?_))) <;> omega) (by intros; exfalso; omega) (by intros; exfalso; omega) (by intros; (repeat' (first | (refine And.intro ?_ ?_) | (refine q_in_of ?_ ?_))) <;> omega) (by intros; exfalso; omega) (by intros; (repeat' (first | (refine And.intro ?_ ?_) | (refine q_in_of ?_ ?_))) <;> omega) (by intros; exfalso; omega) (by intros; exfalso; omega) (by intros; (repeat' (first | (refine And.intro ?_ ?_) | (refine q_in_of ?_ ?_))) <;> omega) (by intros; exfalso; omega) (by intros; (repeat' (first | (refine And.intro ?_ ?_) | (refine q_in_of ?_ ?_))) <;> omega) (by intros; exfalso; omega) (by intros; (repeat' (first | (refine And.intro ?_ ?_) | (refine q_in_of ?_ ?_))) <;> omega) (by intros; exfalso; omega) (by intros; exfalso; omega) (by intros; (repeat' (first | (refine And.intro ?_ ?_) | (refine q_in_of ?_ ?_))) <;> omega) (by intros; exfalso; omega) (by intros; (repeat' (first | (refine And.intro ?_ ?_) | (refine q_in_of ?_ ?_))) <;> omega) (by intros; exfalso; omega) (by intros; exfalso; omega) (by intros; (repeat' (first | (refine And.intro ?_ ?_) | (refine q_in_of ?_ ?_))) <;> omega) (by intros; exfalso; omega) (by intros; (repeat' (first | (refine And.intro ?_ ?_) | (refine q_in_of ?_ ?_))) <;> omega) (by intros; exfalso; omega) (by intros; (repeat' (first | (refine And.intro ?_ ?_) | (refine q_in_of ?_ ?_))) <;> omega) (fun _ _ _ => by rw [ex, s0, s1]; exact sp_joinedC) (by intros; (repeat' (first | (refine And.intro ?_ ?_) | (refine q_in_of ?_ ?_))) <;> omega) ?_
        rintro _ _ _ r16 m16 ⟨rfl, rfl⟩ _
        have q := next (q_up m16 152 (((st'.length + 1 + 1 : Nat) : Int) + (-1) - 1) (l_jo (x - 3000) a0 b0)) (fun k hk => ?_) sf' (by omega) (fx.up rfl)
        · rw [show ((st'.length + 1 + 1 : Nat) : Int) + (-1) = ((st'.length + 1 : Nat) : Int) by omega] at q ⊢
          exact q
        · simp only [List.length_cons] at hk ⊢
          by_cases k0 : k = 0
          · subst k0
            rw [show ((st'.length + 1 : Nat) : Int) - 1 - ((0 : Nat) : Int) = ((st'.length + 1 + 1 : Nat) : Int) + (-1) - 1 by omega, q_up_s]; rfl
          · obtain ⟨k', rfl⟩ : ∃ k', k = k' + 1 := ⟨k - 1, by omega⟩
            rw [q_up_i (by omega)]
            have s := sk (k' + 2) (by simp only [List.length_cons]; omega)
            simp only [List.length_cons, List.getD_cons_succ] at s ⊢
            rw [← s]; congr 1; omega
      · by_cases c2 : x = 2000
        · subst c2
          obtain ⟨k1, sf'⟩ := l_sf_ng.mp sf
          obtain ⟨a0, st', rfl⟩ : ∃ a0 st', st = a0 :: st' := by
            match st, k1 with
            | a0 :: st', _ => exact ⟨a0, st', rfl⟩
          rw [c_st_ng] at next
          have s0 := sk 0 (by simp)
          simp only [List.length_cons, List.getD_cons_zero, List.getD_cons_succ] at s0 hl sf' next ⊢
          have s0 : m' 152 (((st'.length + 1 : Nat) : Int) - 1) = a0 := by rw [← s0]; exact congrArg (m' 152) (by omega)
          refine bkX2_worth_4 (P5 := fun _ _ => True) (P8 := fun _ _ => True) (P12 := fun _ _ => True) (P15 := fun _ _ => True) (P16 := fun _ _ => True) (by intros; (repeat' (first | (refine And.intro ?_ ?_) | (refine q_in_of ?_ ?_))) <;> omega) (by intros; exfalso; omega) (by intros; (repeat' (first | (refine And.intro ?_ ?_) | (refine q_in_of ?_ ?_))) <;> omega) (by intros; (repeat' (first | (refine And.intro ?_ ?_) | (refine q_in_of ?_ ?_))) <;> omega) (by intros; exfalso; omega) (by intros; exfalso; omega) (by intros; (repeat' (first | (refine And.intro ?_ ?_) | (refine q_in_of ?_ ?_))) <;> omega) (by intros; exfalso; omega) (by intros; (repeat' (first | (refine And.intro ?_ ?_) | (refine q_in_of ?_ ?_))) <;> omega) (by intros; exfalso; omega) (by intros; exfalso; omega) (by intros; (repeat' (first | (refine And.intro ?_ ?_) | (refine q_in_of ?_ ?_))) <;> omega) (by intros; exfalso; omega) (by intros; (repeat' (first | (refine And.intro ?_ ?_) | (refine q_in_of ?_ ?_))) <;> omega) ?_ (by intros; (repeat' (first | (refine And.intro ?_ ?_) | (refine q_in_of ?_ ?_))) <;> omega) (by intros; exfalso; omega) (by intros; exfalso; omega) (by intros; (repeat' (first | (refine And.intro ?_ ?_) | (refine q_in_of ?_ ?_))) <;> omega) (by intros; exfalso; omega) (by intros; (repeat' (first | (refine And.intro ?_ ?_) | (refine q_in_of ?_ ?_))) <;> omega) (by intros; exfalso; omega) (by intros; exfalso; omega) (by intros; (repeat' (first | (refine And.intro ?_ ?_) | (refine q_in_of ?_ ?_))) <;> omega) (by intros; exfalso; omega) (by intros; (repeat' (first | (refine And.intro ?_ ?_) | (refine q_in_of ?_ ?_))) <;> omega) (by intros; exfalso; omega) (by intros; (repeat' (first | (refine And.intro ?_ ?_) | (refine q_in_of ?_ ?_))) <;> omega) (by intros; exfalso; omega) (by intros; (repeat' (first | (refine And.intro ?_ ?_) | (refine q_in_of ?_ ?_))) <;> omega) (by intros; exfalso; omega)
          intro _ _ _ _
          rw [s0]
          refine next (q_up m' 152 (((st'.length + 1 : Nat) : Int) - 1) (q_oineg a0)) (fun k hk => ?_) sf' (by omega) (fx.up rfl)
          simp only [List.length_cons] at hk ⊢
          by_cases k0 : k = 0
          · subst k0
            rw [show ((st'.length + 1 : Nat) : Int) - 1 - ((0 : Nat) : Int) = ((st'.length + 1 : Nat) : Int) - 1 by omega, q_up_s]; rfl
          · obtain ⟨k', rfl⟩ : ∃ k', k = k' + 1 := ⟨k - 1, by omega⟩
            rw [q_up_i (by omega)]
            have s := sk (k' + 1) (by simp only [List.length_cons]; omega)
            simp only [List.length_cons, List.getD_cons_succ] at s ⊢
            rw [← s]
        · have sf' := (l_sf_pu c1 c2).mp sf
          have ec : c_st (m 153) st x = (if 1000 ≤ x ∧ x < 1010 then m 153 (x - 1000) else x) :: st := by unfold c_st; rw [if_neg c1, if_neg c2]
          rw [ec] at next
          simp only [List.length_cons] at next ⊢
          refine bkX2_worth_4 (P5 := fun r m2 => m2 = m' ∧ r = (if 1000 ≤ x ∧ x < 1010 then m 153 (x - 1000) else x)) (P8 := fun _ _ => True) (P12 := fun _ _ => True) (P15 := fun _ _ => True) (P16 := fun _ _ => True) (by intros; (repeat' (first | (refine And.intro ?_ ?_) | (refine q_in_of ?_ ?_))) <;> omega) (by intros; exfalso; omega) (by intros; (repeat' (first | (refine And.intro ?_ ?_) | (refine q_in_of ?_ ?_))) <;> omega) (by intros; (repeat' (first | (refine And.intro ?_ ?_) | (refine q_in_of ?_ ?_))) <;> omega) (by intros; exfalso; omega) (fun _ _ _ _ => by rw [ex]; exact (sp_valueOfC hx).post (fun r m2 q => ⟨q.1, by rw [q.2, e153]⟩)) (by intros; (repeat' (first | (refine And.intro ?_ ?_) | (refine q_in_of ?_ ?_))) <;> omega) ?_ (by intros; (repeat' (first | (refine And.intro ?_ ?_) | (refine q_in_of ?_ ?_))) <;> omega) (by intros; exfalso; omega) (by intros; exfalso; omega) (by intros; (repeat' (first | (refine And.intro ?_ ?_) | (refine q_in_of ?_ ?_))) <;> omega) (by intros; exfalso; omega) (by intros; (repeat' (first | (refine And.intro ?_ ?_) | (refine q_in_of ?_ ?_))) <;> omega) (by intros; exfalso; omega) (by intros; (repeat' (first | (refine And.intro ?_ ?_) | (refine q_in_of ?_ ?_))) <;> omega) (by intros; exfalso; omega) (by intros; exfalso; omega) (by intros; (repeat' (first | (refine And.intro ?_ ?_) | (refine q_in_of ?_ ?_))) <;> omega) (by intros; exfalso; omega) (by intros; (repeat' (first | (refine And.intro ?_ ?_) | (refine q_in_of ?_ ?_))) <;> omega) (by intros; exfalso; omega) (by intros; exfalso; omega) (by intros; (repeat' (first | (refine And.intro ?_ ?_) | (refine q_in_of ?_ ?_))) <;> omega) (by intros; exfalso; omega) (by intros; (repeat' (first | (refine And.intro ?_ ?_) | (refine q_in_of ?_ ?_))) <;> omega) (by intros; exfalso; omega) (by intros; (repeat' (first | (refine And.intro ?_ ?_) | (refine q_in_of ?_ ?_))) <;> omega) (by intros; exfalso; omega) (by intros; (repeat' (first | (refine And.intro ?_ ?_) | (refine q_in_of ?_ ?_))) <;> omega) (by intros; exfalso; omega)
          rintro _ _ _ _ r5 m5 ⟨rfl, rfl⟩ _
          refine next (q_up m5 152 (st.length : Int) (if 1000 ≤ x ∧ x < 1010 then m 153 (x - 1000) else x)) (fun k hk => ?_) sf' (by omega) (fx.up rfl)
          simp only [List.length_cons] at hk ⊢
          by_cases k0 : k = 0
          · subst k0
            rw [show ((st.length + 1 : Nat) : Int) - 1 - ((0 : Nat) : Int) = (st.length : Int) by omega, q_up_s]; rfl
          · obtain ⟨k', rfl⟩ : ∃ k', k = k' + 1 := ⟨k - 1, by omega⟩
            rw [q_up_i (by omega)]
            have s := sk k' (by omega)
            simp only [List.getD_cons_succ]
            rw [← s]; congr 1; omega
  refine q_enter (by decide +kernel) (by simp) (Nat.le_of_ble_eq_true rfl) ?_
  refine bkX2_worth_0 (go C [] m rfl (fun k hk => absurd hk (by simp [c_run])) ?_ (Nat.le_refl _) q_fx.rf)
  have := hW.2 0 [] trivial
  rw [List.append_nil] at this
  exact this
/-- what the letters of a law are for a jar -/
def l_eA (T : a_T) (A : a_W) (j i : Int) : Int := if i = 0 then j else if i = 1 then A.2.2.2.1 else if i = 2 then q_oirem A.2.2.2.1 12 else if i = 3 then A.1.1 j else if i = 4 then T.2.2.2.1 j else if i = 5 then T.1 j else if i = 6 then T.2.1 j else if i = 7 then T.2.2.1 j else if i = 8 then A.1.2.1 j else if i = 9 then g_s (fun k => A.2.2.1 (6 * T.2.1 j + k)) 6 else 0
def l_val (C : List Int) (T : a_T) (A : a_W) (j : Int) : Int := if C = [] then 1 else c_val (l_eA T A j) C
theorem ten_of {i : Int} (h0 : 0 ≤ i) (h1 : i < 10) : i = 0 ∨ i = 1 ∨ i = 2 ∨ i = 3 ∨ i = 4 ∨ i = 5 ∨ i = 6 ∨ i = 7 ∨ i = 8 ∨ i = 9 := by omega
theorem cl_lawOf {b B : Int} {m : qm} {n : Nat} {T : a_T} {A : a_W} {C : List Int} (cT : c_T m n T) (cW : c_W m 5 n A) (t : a_TV n T) (v : a_V B n T.1 A) (hC : l_cC m C) {j : Int} (hj : 0 ≤ j ∧ j < n) :
    q_Ev yX11_lawOf cX11_lawOf 3 (some .int) 3 0 0 [(2, 0), (0, j)] (q_sh0, q_rb b, m) (qK (q_rb b) (fun r m' => r = l_val C T A j ∧ q_fx (fun c _ => c = 152 ∨ c = 153) m m')) := by
  have h9 := t.1
  have tj := t.2 j hj.1 hj.2
  have wj := cW.1 j hj.1 hj.2
  have e3 : m 3 j = T.2.1 j := cT.2.2.1 j hj.1 hj.2
  have e2 : m 2 j = T.1 j := cT.2.1 j hj.1 hj.2
  have e4 : m 4 j = T.2.2.1 j := cT.2.2.2.1 j hj.1 hj.2
  have e10 : m 10 j = T.2.2.2.1 j := cT.2.2.2.2.1 j hj.1 hj.2
  have e8 : m 8 j = A.1.1 j := wj.1.1
  have e9 : m 9 j = A.1.2.1 j := wj.2
  have e58 : m 5 8 = A.2.2.2.1 := cW.2.2.1
  refine q_enter (by decide +kernel) (by simp) (Nat.le_of_ble_eq_true rfl) ?_
  refine bkX11_lawOf_0 (P1 := fun r m' => m' = m ∧ ((r = 1 ∧ C = []) ∨ (r = 0 ∧ C ≠ []))) (P3 := fun _ _ r m3 => m3 = (q_up (q_up (q_up (q_up (q_up (q_up (q_up (q_up (q_up m 153 0 j) 153 1 (m 5 8)) 153 2 (q_oirem (m 5 8) 12)) 153 3 (m 8 j)) 153 4 (m 10 j)) 153 5 (m 2 j)) 153 6 (m 3 j)) 153 7 (m 4 j)) 153 8 (m 9 j)) ∧ r = g_s (fun k => A.2.2.1 (6 * T.2.1 j + k)) 6) (P4 := fun _ _ r3 m3 r m' => r = c_val ((q_up m3 153 9 r3) 153) C ∧ q_fx (fun c _ => c = 152) (q_up m3 153 9 r3) m') ?_ ?_ ?_ (fun _ _ _ _ _ _ _ _ _ => by decide) ?_ ?_ ?_
  · refine q_enter (by decide +kernel) (by simp) (Nat.le_of_ble_eq_true rfl) ?_
    have h1 := hC.1
    refine bkX2_isNone_0 (fun z => ⟨rfl, Or.inr ⟨rfl, fun y => z (by rw [h1, y]; rfl)⟩⟩) (fun z => ⟨rfl, Or.inl ⟨rfl, List.length_eq_zero_iff.mp (by omega)⟩⟩)
  · rintro r1 m1 ⟨rfl, g⟩ _ z
    exact ⟨by decide, by decide, by decide, by omega, by decide, by decide, by decide, by decide, by decide, by decide⟩
  · rintro r1 m1 ⟨rfl, g⟩ _ z
    have q := fun (d : Int) (d0 : 0 ≤ d) (d1 : d < 36) => v.2.2.1 d d0 d1
    refine (sp_owedBy (w := m1 3 j) q_st5 (by omega) (fun d d0 d1 => ?_)).post (fun r m' y => ⟨y.1, ?_⟩)
    · show 0 ≤ _ ∧ _
      rw [show (5 : Int) + 7 = 12 by decide, q_up_c (by decide), q_up_c (by decide), q_up_c (by decide), q_up_c (by decide), q_up_c (by decide), q_up_c (by decide), q_up_c (by decide), q_up_c (by decide), q_up_c (by decide)]
      have := cW.2.1 d d0 d1
      have this : m1 12 d = A.2.2.1 d := this
      rw [this]; exact q d d0 d1
    · rw [y.2, ← e3]
      refine g_s_en (fun k k0 k1 => ?_)
      rw [show (5 : Int) + 7 = 12 by decide, q_up_c (by decide), q_up_c (by decide), q_up_c (by decide), q_up_c (by decide), q_up_c (by decide), q_up_c (by decide), q_up_c (by decide), q_up_c (by decide), q_up_c (by decide)]
      exact cW.2.1 _ (by omega) (by omega)
  · rintro r1 m1 ⟨rfl, g⟩ _ z r3 m3 ⟨rfl, e⟩ _
    have g := g.resolve_left (fun y => by omega)
    refine sp_worthC (hC.fr (X := fun c _ => c = 153) ?_ (by omega)) g.2
    exact q_fx.up (X := fun c _ => c = 153) (q_fx.up (X := fun c _ => c = 153) (q_fx.up (X := fun c _ => c = 153) (q_fx.up (X := fun c _ => c = 153) (q_fx.up (X := fun c _ => c = 153) (q_fx.up (X := fun c _ => c = 153) (q_fx.up (X := fun c _ => c = 153) (q_fx.up (X := fun c _ => c = 153) (q_fx.up (X := fun c _ => c = 153) (q_fx.up (X := fun c _ => c = 153) q_fx.rf rfl) rfl) rfl) rfl) rfl) rfl) rfl) rfl) rfl) rfl
  · rintro r1 m1 ⟨rfl, g⟩ _ z r3 m3 ⟨rfl, e⟩ _ r4 m4 ⟨e4', f4⟩ _
    have g := g.resolve_left (fun y => by omega)
    refine ⟨?_, ?_⟩
    · unfold l_val
      rw [if_neg g.2, e4']
      refine c_val_ext (fun i i0 i1 => ?_) C
      rcases ten_of i0 i1 with rfl | rfl | rfl | rfl | rfl | rfl | rfl | rfl | rfl | rfl
      all_goals simp only [q_up, l_eA, e, e2, e3, e4, e8, e9, e10, e58]; rfl
    · refine q_fx.tr ?_ (f4.mono (fun c i z => Or.inl z))
      have X : Int → Int → Prop := fun c _ => c = 152 ∨ c = 153
      exact q_fx.mono (X := fun c _ => c = 153) (q_fx.up (X := fun c _ => c = 153) (q_fx.up (X := fun c _ => c = 153) (q_fx.up (X := fun c _ => c = 153) (q_fx.up (X := fun c _ => c = 153) (q_fx.up (X := fun c _ => c = 153) (q_fx.up (X := fun c _ => c = 153) (q_fx.up (X := fun c _ => c = 153) (q_fx.up (X := fun c _ => c = 153) (q_fx.up (X := fun c _ => c = 153) (q_fx.up (X := fun c _ => c = 153) q_fx.rf rfl) rfl) rfl) rfl) rfl) rfl) rfl) rfl) rfl) rfl) (fun c i z => Or.inr z)
  · rintro r1 m1 ⟨rfl, g⟩ _ z
    have g := g.resolve_right (fun y => by omega)
    exact ⟨by unfold l_val; rw [if_pos g.2], q_fx.rf⟩
