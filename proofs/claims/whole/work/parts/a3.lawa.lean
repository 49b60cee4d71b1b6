/-! ===== what a LAW's text tells: steps, each behind what it works on ===== -/
def l_ix (c : Int) : Int := if c = 106 then 0 else if c = 98 then 1 else if c = 116 then 2 else if c = 108 then 3 else if c = 104 then 4 else if c = 99 then 5 else if c = 111 then 6 else if c = 103 then 7 else if c = 119 then 8 else if c = 100 then 9 else -1
theorem l_ix_r (c : Int) : -1 ≤ l_ix c ∧ l_ix c ≤ 9 := by unfold l_ix; repeat' split <;> omega
abbrev t_lt (S : Int → Int) (lm : Int) (s : a_R) : Prop := s.2 = -1 ∧ s.1 < lm ∧ 0 ≤ l_ix (S s.1)
def l_p (S : Int → Int) (lm : Int) : Nat → Nat → Int → a_R → a_R × List Int
  | 0, _, _, s => (s, [])
  | f + 1, md, w, s =>
    if md = 7 then (if t_is S lm s 40 ∧ w < 4 then (t_nd S lm 41 (l_p S lm f 5 (w + 1) (s.1 + 1, s.2)).1, (l_p S lm f 5 (w + 1) (s.1 + 1, s.2)).2) else if t_dg S lm s then ((t_nm S lm 3 s).2, [(t_nm S lm 3 s).1]) else if t_lt S lm s then ((s.1 + 1, s.2), [1000 + l_ix (S s.1)]) else (t_fl s s.1, []))
    else if md = 0 then (if t_is S lm s 45 then l_p S lm f 6 w (s.1 + 1, s.2) else l_p S lm f 7 w s)
    else if md = 6 then (if t_is S lm s 45 then l_p S lm f 0 w (s.1 + 1, s.2) else ((l_p S lm f 7 w s).1, (l_p S lm f 7 w s).2 ++ [2000]))
    else if md = 1 then ((l_p S lm f 2 w (l_p S lm f 0 w s).1).1, (l_p S lm f 0 w s).2 ++ (l_p S lm f 2 w (l_p S lm f 0 w s).1).2)
    else if md = 2 then (if t_is S lm s 42 ∨ t_is S lm s 47 then ((l_p S lm f 2 w (l_p S lm f 0 w (s.1 + 1, s.2)).1).1, (l_p S lm f 0 w (s.1 + 1, s.2)).2 ++ (3000 + S s.1) :: (l_p S lm f 2 w (l_p S lm f 0 w (s.1 + 1, s.2)).1).2) else (s, []))
    else if md = 3 then ((l_p S lm f 4 w (l_p S lm f 1 w s).1).1, (l_p S lm f 1 w s).2 ++ (l_p S lm f 4 w (l_p S lm f 1 w s).1).2)
    else if md = 4 then (if t_is S lm s 43 ∨ t_is S lm s 45 then ((l_p S lm f 4 w (l_p S lm f 1 w (s.1 + 1, s.2)).1).1, (l_p S lm f 1 w (s.1 + 1, s.2)).2 ++ (3000 + S s.1) :: (l_p S lm f 4 w (l_p S lm f 1 w (s.1 + 1, s.2)).1).2) else (s, []))
    else (if t_is S lm (l_p S lm f 3 w s).1 60 ∨ t_is S lm (l_p S lm f 3 w s).1 62 ∨ t_is S lm (l_p S lm f 3 w s).1 61 then ((l_p S lm f 3 w ((l_p S lm f 3 w s).1.1 + 1, (l_p S lm f 3 w s).1.2)).1, (l_p S lm f 3 w s).2 ++ (l_p S lm f 3 w ((l_p S lm f 3 w s).1.1 + 1, (l_p S lm f 3 w s).1.2)).2 ++ [3000 + S (l_p S lm f 3 w s).1.1]) else l_p S lm f 3 w s)
section LP
variable {S : Int → Int} {lm : Int} {f : Nat} {w : Int} {s : a_R}
theorem l_p7 : l_p S lm (f + 1) 7 w s = (if t_is S lm s 40 ∧ w < 4 then (t_nd S lm 41 (l_p S lm f 5 (w + 1) (s.1 + 1, s.2)).1, (l_p S lm f 5 (w + 1) (s.1 + 1, s.2)).2) else if t_dg S lm s then ((t_nm S lm 3 s).2, [(t_nm S lm 3 s).1]) else if t_lt S lm s then ((s.1 + 1, s.2), [1000 + l_ix (S s.1)]) else (t_fl s s.1, [])) := rfl
theorem l_p0 : l_p S lm (f + 1) 0 w s = (if t_is S lm s 45 then l_p S lm f 6 w (s.1 + 1, s.2) else l_p S lm f 7 w s) := rfl
theorem l_p6 : l_p S lm (f + 1) 6 w s = (if t_is S lm s 45 then l_p S lm f 0 w (s.1 + 1, s.2) else ((l_p S lm f 7 w s).1, (l_p S lm f 7 w s).2 ++ [2000])) := rfl
theorem l_p1 : l_p S lm (f + 1) 1 w s = ((l_p S lm f 2 w (l_p S lm f 0 w s).1).1, (l_p S lm f 0 w s).2 ++ (l_p S lm f 2 w (l_p S lm f 0 w s).1).2) := rfl
theorem l_p2 : l_p S lm (f + 1) 2 w s = (if t_is S lm s 42 ∨ t_is S lm s 47 then ((l_p S lm f 2 w (l_p S lm f 0 w (s.1 + 1, s.2)).1).1, (l_p S lm f 0 w (s.1 + 1, s.2)).2 ++ (3000 + S s.1) :: (l_p S lm f 2 w (l_p S lm f 0 w (s.1 + 1, s.2)).1).2) else (s, [])) := rfl
theorem l_p3 : l_p S lm (f + 1) 3 w s = ((l_p S lm f 4 w (l_p S lm f 1 w s).1).1, (l_p S lm f 1 w s).2 ++ (l_p S lm f 4 w (l_p S lm f 1 w s).1).2) := rfl
theorem l_p4 : l_p S lm (f + 1) 4 w s = (if t_is S lm s 43 ∨ t_is S lm s 45 then ((l_p S lm f 4 w (l_p S lm f 1 w (s.1 + 1, s.2)).1).1, (l_p S lm f 1 w (s.1 + 1, s.2)).2 ++ (3000 + S s.1) :: (l_p S lm f 4 w (l_p S lm f 1 w (s.1 + 1, s.2)).1).2) else (s, [])) := rfl
theorem l_p5 : l_p S lm (f + 1) 5 w s = (if t_is S lm (l_p S lm f 3 w s).1 60 ∨ t_is S lm (l_p S lm f 3 w s).1 62 ∨ t_is S lm (l_p S lm f 3 w s).1 61 then ((l_p S lm f 3 w ((l_p S lm f 3 w s).1.1 + 1, (l_p S lm f 3 w s).1.2)).1, (l_p S lm f 3 w s).2 ++ (l_p S lm f 3 w ((l_p S lm f 3 w s).1.1 + 1, (l_p S lm f 3 w s).1.2)).2 ++ [3000 + S (l_p S lm f 3 w s).1.1]) else l_p S lm f 3 w s) := rfl
end LP
/-- two numbers joined -/
def l_jo (ch a b : Int) : Int := if ch = 60 then (if a < b then 1 else 0) else if ch = 62 then (if b < a then 1 else 0) else if ch = 61 then (if a = b then 1 else 0) else if ch = 43 then q_w32 (a + b) else if ch = 45 then q_w32 (a - b) else if ch = 42 then q_w32 (a * b) else if b = 0 then 0 else q_oidiv a b
/-- a step over a stack -/
def c_st (e : Int → Int) (st : List Int) (x : Int) : List Int := if 3000 ≤ x then l_jo (x - 3000) (st.getD 1 0) (st.getD 0 0) :: st.drop 2 else if x = 2000 then q_oineg (st.getD 0 0) :: st.drop 1 else (if 1000 ≤ x ∧ x < 1010 then e (x - 1000) else x) :: st
def c_run (e : Int → Int) (c : List Int) (st : List Int) : List Int := c.foldl (c_st e) st
def c_val (e : Int → Int) (c : List Int) : Int := (c_run e c []).headD 0
def c_vl (e : Int → Int) (c : List Int) (v : Int) : Int := (c_run e c [v]).headD 0
/-- there is always enough on the stack -/
def l_sf : List Int → Nat → Prop
  | [], _ => True
  | x :: c, k => if 3000 ≤ x then 2 ≤ k ∧ l_sf c (k - 1) else if x = 2000 then 1 ≤ k ∧ l_sf c k else l_sf c (k + 1)
theorem l_sf_op {x : Int} {c : List Int} {k : Nat} (h : 3000 ≤ x) : l_sf (x :: c) k ↔ 2 ≤ k ∧ l_sf c (k - 1) := by simp only [l_sf, if_pos h]
theorem l_sf_ng {c : List Int} {k : Nat} : l_sf (2000 :: c) k ↔ 1 ≤ k ∧ l_sf c k := by simp [l_sf]
theorem l_sf_pu {x : Int} {c : List Int} {k : Nat} (h : ¬ 3000 ≤ x) (h2 : x ≠ 2000) : l_sf (x :: c) k ↔ l_sf c (k + 1) := by simp only [l_sf, if_neg h, if_neg h2]
def l_W (c : List Int) : Prop := (∀ (e : Int → Int) (st : List Int), c_run e c st = c_val e c :: st) ∧ ∀ (k : Nat) (rest : List Int), l_sf rest (k + 1) → l_sf (c ++ rest) k
def l_WL (c : List Int) : Prop := (∀ (e : Int → Int) (v : Int) (st : List Int), c_run e c (v :: st) = c_vl e c v :: st) ∧ ∀ (k : Nat) (rest : List Int), l_sf rest (k + 1) → l_sf (c ++ rest) (k + 1)
theorem c_run_app {e : Int → Int} {a b st : List Int} : c_run e (a ++ b) st = c_run e b (c_run e a st) := by unfold c_run; rw [List.foldl_append]
theorem c_run_cons {e : Int → Int} {x : Int} {b st : List Int} : c_run e (x :: b) st = c_run e b (c_st e st x) := rfl
theorem c_run_nil {e : Int → Int} {st : List Int} : c_run e [] st = st := rfl
theorem c_st_op {e : Int → Int} {x a b : Int} {st : List Int} (h : 3000 ≤ x) : c_st e (b :: a :: st) x = l_jo (x - 3000) a b :: st := by unfold c_st; rw [if_pos h]; rfl
theorem c_st_ng {e : Int → Int} {a : Int} {st : List Int} : c_st e (a :: st) 2000 = q_oineg a :: st := by unfold c_st; rw [if_neg (by decide), if_pos rfl]; rfl
theorem l_WL_nil : l_WL [] ∧ ∀ e v, c_vl e [] v = v := ⟨⟨fun _ _ _ => rfl, fun _ _ h => h⟩, fun _ _ => rfl⟩
theorem l_W_app {a b : List Int} (ha : l_W a) (hb : l_WL b) : l_W (a ++ b) ∧ ∀ e, c_val e (a ++ b) = c_vl e b (c_val e a) := by
  have k : ∀ e, c_val e (a ++ b) = c_vl e b (c_val e a) := fun e => by unfold c_val; rw [c_run_app, ha.1 e []]; rfl
  exact ⟨⟨fun e st => by rw [c_run_app, ha.1, hb.1, k], fun j rest h => by rw [List.append_assoc]; exact ha.2 j _ (hb.2 j rest h)⟩, k⟩
theorem l_WL_op {a b : List Int} {x : Int} (ha : l_W a) (hx : 3000 ≤ x) (hb : l_WL b) : l_WL (a ++ x :: b) ∧ ∀ e v, c_vl e (a ++ x :: b) v = c_vl e b (l_jo (x - 3000) v (c_val e a)) := by
  have k : ∀ e v st, c_run e (a ++ x :: b) (v :: st) = c_vl e b (l_jo (x - 3000) v (c_val e a)) :: st := fun e v st => by
    rw [c_run_app, ha.1, c_run_cons, c_st_op hx, hb.1]
  have k2 : ∀ e v, c_vl e (a ++ x :: b) v = c_vl e b (l_jo (x - 3000) v (c_val e a)) := fun e v => by show (c_run e (a ++ x :: b) [v]).headD 0 = _; rw [k]; rfl
  exact ⟨⟨fun e v st => by rw [k, k2], fun j rest h => by rw [List.append_assoc, List.cons_append]; exact ha.2 (j + 1) _ ((l_sf_op hx).mpr ⟨by omega, hb.2 j rest h⟩)⟩, k2⟩
theorem l_W_neg {a : List Int} (ha : l_W a) : l_W (a ++ [2000]) ∧ ∀ e, c_val e (a ++ [2000]) = q_oineg (c_val e a) := by
  have k : ∀ e st, c_run e (a ++ [2000]) st = q_oineg (c_val e a) :: st := fun e st => by rw [c_run_app, ha.1, c_run_cons, c_st_ng]; rfl
  have k2 : ∀ e, c_val e (a ++ [2000]) = q_oineg (c_val e a) := fun e => by show (c_run e (a ++ [2000]) []).headD 0 = _; rw [k]; rfl
  exact ⟨⟨fun e st => by rw [k, k2], fun j rest h => by rw [List.append_assoc]; exact ha.2 j _ (l_sf_ng.mpr ⟨by omega, h⟩)⟩, k2⟩
theorem l_W_cmp {a b : List Int} {x : Int} (ha : l_W a) (hb : l_W b) (hx : 3000 ≤ x) : l_W (a ++ b ++ [x]) ∧ ∀ e, c_val e (a ++ b ++ [x]) = l_jo (x - 3000) (c_val e a) (c_val e b) := by
  have k : ∀ e st, c_run e (a ++ b ++ [x]) st = l_jo (x - 3000) (c_val e a) (c_val e b) :: st := fun e st => by rw [c_run_app, c_run_app, ha.1, hb.1, c_run_cons, c_st_op hx]; rfl
  have k2 : ∀ e, c_val e (a ++ b ++ [x]) = l_jo (x - 3000) (c_val e a) (c_val e b) := fun e => by show (c_run e (a ++ b ++ [x]) []).headD 0 = _; rw [k]; rfl
  exact ⟨⟨fun e st => by rw [k, k2], fun j rest h => by rw [List.append_assoc, List.append_assoc]; exact ha.2 j _ (hb.2 (j + 1) _ ((l_sf_op hx).mpr ⟨by omega, h⟩))⟩, k2⟩
theorem l_W_num {x : Int} (h0 : x < 1000) : l_W [x] ∧ ∀ e, c_val e [x] = x := by
  have k : ∀ e st, c_run e [x] st = x :: st := fun e st => by rw [c_run_cons, c_run_nil]; unfold c_st; rw [if_neg (by omega), if_neg (by omega), if_neg (by omega)]
  have k2 : ∀ e, c_val e [x] = x := fun e => by show (c_run e [x] []).headD 0 = _; rw [k]; rfl
  exact ⟨⟨fun e st => by rw [k, k2], fun j rest h => (l_sf_pu (by omega) (by omega)).mpr h⟩, k2⟩
theorem l_W_let {i : Int} (h0 : 0 ≤ i ∧ i < 10) : l_W [1000 + i] ∧ ∀ e, c_val e [1000 + i] = e i := by
  have k : ∀ e st, c_run e [1000 + i] st = e i :: st := fun e st => by rw [c_run_cons, c_run_nil]; unfold c_st; rw [if_neg (by omega), if_neg (by omega), if_pos (by omega), show 1000 + i - 1000 = i by omega]
  have k2 : ∀ e, c_val e [1000 + i] = e i := fun e => by show (c_run e [1000 + i] []).headD 0 = _; rw [k]; rfl
  exact ⟨⟨fun e st => by rw [k, k2], fun j rest h => (l_sf_pu (by omega) (by omega)).mpr h⟩, k2⟩
def l_rk (md : Nat) : Int := if md = 7 then 1 else if md = 0 then 2 else if md = 6 then 2 else if md = 1 then 3 else if md = 2 then 1 else if md = 3 then 4 else if md = 4 then 1 else 5
abbrev l_lo (md : Nat) : Prop := md = 2 ∨ md = 4
/-- what holds of every reading -/
abbrev l_OK (lm : Int) (md : Nat) (s : a_R) (r : a_R × List Int) : Prop := t_ok lm r.1 ∧ s.1 ≤ r.1.1 ∧ (r.1.2 = -1 → s.2 = -1 ∧ (r.2.length : Int) ≤ r.1.1 - s.1 + (if md = 6 then 1 else 0) ∧ (l_lo md → l_WL r.2) ∧ (¬ l_lo md → l_W r.2))
theorem l_ok {S : Int → Int} {lm : Int} : ∀ (f md : Nat) (w : Int) (s : a_R), md ≤ 7 → t_ok lm s → 8 * (lm - s.1) + l_rk md ≤ f → l_OK lm md s (l_p S lm f md w s) := by
  intro f
  induction f with
  | zero =>
    intro md w s h ok hm
    have := ok.2.1
    have : 1 ≤ l_rk md := by unfold l_rk; repeat' split <;> omega
    omega
  | succ f ih =>
    intro md w s h ok hm
    have k1 := ok.1
    have k2 := ok.2.1
    have hm : 8 * (lm - s.1) + l_rk md ≤ f + 1 := by omega
    have nx : ∀ ch, t_is S lm s ch → t_ok lm (s.1 + 1, s.2) := fun ch z => ok.nx (S := S) z.2.1
    -- a call of one that is no loop
    have call : ∀ md', md' ≤ 7 → ∀ (w' : Int) (u : a_R), t_ok lm u → 8 * (lm - u.1) + l_rk md' ≤ f → l_OK lm md' u (l_p S lm f md' w' u) := fun md' h' w' u o m => ih md' w' u h' o m
    have c8 : md = 7 ∨ md = 0 ∨ md = 6 ∨ md = 1 ∨ md = 2 ∨ md = 3 ∨ md = 4 ∨ md = 5 := by omega
    rcases c8 with rfl | rfl | rfl | rfl | rfl | rfl | rfl | rfl
    · have hm : 8 * (lm - s.1) + 1 ≤ f + 1 := hm
      rw [l_p7]
      by_cases z : t_is S lm s 40 ∧ w < 4
      · rw [if_pos z]
        obtain ⟨a1, a2, a3⟩ := call 5 (by decide) (w + 1) (s.1 + 1, s.2) (nx _ z.1) (by show 8 * (lm - (s.1 + 1)) + 5 ≤ f; omega)
        generalize l_p S lm f 5 (w + 1) (s.1 + 1, s.2) = r at a1 a2 a3 ⊢
        have a2 : s.1 + 1 ≤ r.1.1 := a2
        have o := a1.nd (S := S) (ch := 41)
        refine ⟨o, ?_, fun y => ?_⟩
        · show s.1 ≤ (t_nd S lm 41 r.1).1
          unfold t_nd
          split
          · show s.1 ≤ r.1.1 + 1; omega
          · show s.1 ≤ r.1.1; omega
        · obtain ⟨p1, p2⟩ := t_nd_p a1 y
          obtain ⟨b1, b2, -, b4⟩ := a3 p1.1
          have b2 : (r.2.length : Int) ≤ r.1.1 - (s.1 + 1) + 0 := b2
          refine ⟨b1, ?_, fun q => by omega, fun _ => b4 (by decide)⟩
          show (r.2.length : Int) ≤ (t_nd S lm 41 r.1).1 - s.1 + 0
          rw [p2]
          show (r.2.length : Int) ≤ r.1.1 + 1 - s.1 + 0
          omega
      · rw [if_neg z]
        by_cases z2 : t_dg S lm s
        · rw [if_pos z2]
          have o := t_nm_ok (S := S) (k := 3) ok
          have v := t_nm_v (S := S) (lm := lm) (k := 3) (s := s) (by decide)
          have e2 : (t_nm S lm 3 s).2.2 = s.2 := by unfold t_nm; rw [if_pos z2]; exact (t_mr_ok _ _ _ (ok.nx (S := S) z2.2.1)).2
          have lt := (t_nm_p (k := 3) ok (by rw [e2]; exact z2.1)).2
          exact ⟨o, by show s.1 ≤ (t_nm S lm 3 s).2.1; omega, fun y => ⟨z2.1, by show ((1 : Nat) : Int) ≤ (t_nm S lm 3 s).2.1 - s.1 + 0; omega, fun q => by omega, fun _ => (l_W_num (by omega)).1⟩⟩
        · rw [if_neg z2]
          by_cases z3 : t_lt S lm s
          · rw [if_pos z3]
            exact ⟨ok.nx (S := S) z3.2.1, by show s.1 ≤ s.1 + 1; omega, fun y => ⟨z3.1, by show ((1 : Nat) : Int) ≤ s.1 + 1 - s.1 + 0; omega, fun q => by omega, fun _ => (l_W_let ⟨z3.2.2, by have := (l_ix_r (S s.1)).2; omega⟩).1⟩⟩
          · rw [if_neg z3]
            refine ⟨ok.fl (by omega) (by have := ok.2.2.1; omega), Int.le_refl _, fun y => ?_⟩
            exfalso
            have y : (t_fl s s.1).2 = -1 := y
            by_cases q : s.2 = -1
            · rw [t_fl_ok q] at y; have y : s.1 = -1 := y; omega
            · rw [t_fl_fl q] at y; exact q y
    · have hm : 8 * (lm - s.1) + 2 ≤ f + 1 := hm
      rw [l_p0]
      by_cases z : t_is S lm s 45
      · rw [if_pos z]
        obtain ⟨a1, a2, a3⟩ := call 6 (by decide) w (s.1 + 1, s.2) (nx _ z) (by show 8 * (lm - (s.1 + 1)) + 2 ≤ f; omega)
        generalize l_p S lm f 6 w (s.1 + 1, s.2) = r at a1 a2 a3 ⊢
        have a2 : s.1 + 1 ≤ r.1.1 := a2
        refine ⟨a1, by omega, fun y => ?_⟩
        obtain ⟨b1, b2, -, b4⟩ := a3 y
        have b2 : (r.2.length : Int) ≤ r.1.1 - (s.1 + 1) + 1 := b2
        exact ⟨b1, by show (r.2.length : Int) ≤ r.1.1 - s.1 + 0; omega, fun q => by omega, fun _ => b4 (by decide)⟩
      · rw [if_neg z]
        obtain ⟨a1, a2, a3⟩ := call 7 (by decide) w s ok (by show 8 * (lm - s.1) + 1 ≤ f; omega)
        exact ⟨a1, a2, fun y => ⟨(a3 y).1, (a3 y).2.1, fun q => by omega, fun _ => (a3 y).2.2.2 (by decide)⟩⟩
    · have hm : 8 * (lm - s.1) + 2 ≤ f + 1 := hm
      rw [l_p6]
      by_cases z : t_is S lm s 45
      · rw [if_pos z]
        obtain ⟨a1, a2, a3⟩ := call 0 (by decide) w (s.1 + 1, s.2) (nx _ z) (by show 8 * (lm - (s.1 + 1)) + 2 ≤ f; omega)
        generalize l_p S lm f 0 w (s.1 + 1, s.2) = r at a1 a2 a3 ⊢
        have a2 : s.1 + 1 ≤ r.1.1 := a2
        refine ⟨a1, by omega, fun y => ?_⟩
        obtain ⟨b1, b2, -, b4⟩ := a3 y
        have b2 : (r.2.length : Int) ≤ r.1.1 - (s.1 + 1) + 0 := b2
        exact ⟨b1, by show (r.2.length : Int) ≤ r.1.1 - s.1 + 1; omega, fun q => by omega, fun _ => b4 (by decide)⟩
      · rw [if_neg z]
        obtain ⟨a1, a2, a3⟩ := call 7 (by decide) w s ok (by show 8 * (lm - s.1) + 1 ≤ f; omega)
        generalize l_p S lm f 7 w s = r at a1 a2 a3 ⊢
        refine ⟨a1, a2, fun y => ?_⟩
        obtain ⟨b1, b2, -, b4⟩ := a3 y
        have b2 : (r.2.length : Int) ≤ r.1.1 - s.1 + 0 := b2
        refine ⟨b1, ?_, fun q => by omega, fun _ => (l_W_neg (b4 (by decide))).1⟩
        show ((r.2 ++ [2000]).length : Int) ≤ r.1.1 - s.1 + 1
        rw [List.length_append]; show ((r.2.length + 1 : Nat) : Int) ≤ _; omega
    · have hm : 8 * (lm - s.1) + 3 ≤ f + 1 := hm
      rw [l_p1]
      obtain ⟨a1, a2, a3⟩ := call 0 (by decide) w s ok (by show 8 * (lm - s.1) + 2 ≤ f; omega)
      generalize l_p S lm f 0 w s = r at a1 a2 a3 ⊢
      obtain ⟨b1, b2, b3⟩ := call 2 (by decide) w r.1 a1 (by show 8 * (lm - r.1.1) + 1 ≤ f; omega)
      generalize l_p S lm f 2 w r.1 = q at b1 b2 b3 ⊢
      refine ⟨b1, by show s.1 ≤ q.1.1; omega, fun y => ?_⟩
      obtain ⟨g1, g2, g3, -⟩ := b3 y
      obtain ⟨d1, d2, -, d4⟩ := a3 g1
      have g2 : (q.2.length : Int) ≤ q.1.1 - r.1.1 + 0 := g2
      have d2 : (r.2.length : Int) ≤ r.1.1 - s.1 + 0 := d2
      refine ⟨d1, ?_, fun z => by omega, fun _ => (l_W_app (d4 (by decide)) (g3 (by decide))).1⟩
      show ((r.2 ++ q.2).length : Int) ≤ q.1.1 - s.1 + 0
      rw [List.length_append]; omega
    · have hm : 8 * (lm - s.1) + 1 ≤ f + 1 := hm
      rw [l_p2]
      by_cases z : t_is S lm s 42 ∨ t_is S lm s 47
      · rw [if_pos z]
        have zz : s.2 = -1 ∧ (S s.1 = 42 ∨ S s.1 = 47) := by rcases z with z | z <;> exact ⟨z.1, by have := z.2.2; omega⟩
        obtain ⟨a1, a2, a3⟩ := call 0 (by decide) w (s.1 + 1, s.2) (by rcases z with z | z <;> exact nx _ z) (by show 8 * (lm - (s.1 + 1)) + 2 ≤ f; omega)
        generalize l_p S lm f 0 w (s.1 + 1, s.2) = r at a1 a2 a3 ⊢
        have a2 : s.1 + 1 ≤ r.1.1 := a2
        obtain ⟨b1, b2, b3⟩ := call 2 (by decide) w r.1 a1 (by show 8 * (lm - r.1.1) + 1 ≤ f; omega)
        generalize l_p S lm f 2 w r.1 = q at b1 b2 b3 ⊢
        refine ⟨b1, by show s.1 ≤ q.1.1; omega, fun y => ?_⟩
        obtain ⟨g1, g2, g3, -⟩ := b3 y
        obtain ⟨d1, d2, -, d4⟩ := a3 g1
        have g2 : (q.2.length : Int) ≤ q.1.1 - r.1.1 + 0 := g2
        have d2 : (r.2.length : Int) ≤ r.1.1 - (s.1 + 1) + 0 := d2
        refine ⟨zz.1, ?_, fun _ => (l_WL_op (d4 (by decide)) (by omega) (g3 (by decide))).1, fun z => absurd (by decide) z⟩
        show ((r.2 ++ (3000 + S s.1) :: q.2).length : Int) ≤ q.1.1 - s.1 + 0
        rw [List.length_append, List.length_cons]; omega
      · rw [if_neg z]
        exact ⟨ok, Int.le_refl _, fun y => ⟨y, by show ((0 : Nat) : Int) ≤ s.1 - s.1 + 0; omega, fun _ => l_WL_nil.1, fun z => absurd (by decide) z⟩⟩
    · have hm : 8 * (lm - s.1) + 4 ≤ f + 1 := hm
      rw [l_p3]
      obtain ⟨a1, a2, a3⟩ := call 1 (by decide) w s ok (by show 8 * (lm - s.1) + 3 ≤ f; omega)
      generalize l_p S lm f 1 w s = r at a1 a2 a3 ⊢
      obtain ⟨b1, b2, b3⟩ := call 4 (by decide) w r.1 a1 (by show 8 * (lm - r.1.1) + 1 ≤ f; omega)
      generalize l_p S lm f 4 w r.1 = q at b1 b2 b3 ⊢
      refine ⟨b1, by show s.1 ≤ q.1.1; omega, fun y => ?_⟩
      obtain ⟨g1, g2, g3, -⟩ := b3 y
      obtain ⟨d1, d2, -, d4⟩ := a3 g1
      have g2 : (q.2.length : Int) ≤ q.1.1 - r.1.1 + 0 := g2
      have d2 : (r.2.length : Int) ≤ r.1.1 - s.1 + 0 := d2
      refine ⟨d1, ?_, fun z => by omega, fun _ => (l_W_app (d4 (by decide)) (g3 (by decide))).1⟩
      show ((r.2 ++ q.2).length : Int) ≤ q.1.1 - s.1 + 0
      rw [List.length_append]; omega
    · have hm : 8 * (lm - s.1) + 1 ≤ f + 1 := hm
      rw [l_p4]
      by_cases z : t_is S lm s 43 ∨ t_is S lm s 45
      · rw [if_pos z]
        have zz : s.2 = -1 ∧ (S s.1 = 43 ∨ S s.1 = 45) := by rcases z with z | z <;> exact ⟨z.1, by have := z.2.2; omega⟩
        obtain ⟨a1, a2, a3⟩ := call 1 (by decide) w (s.1 + 1, s.2) (by rcases z with z | z <;> exact nx _ z) (by show 8 * (lm - (s.1 + 1)) + 3 ≤ f; omega)
        generalize l_p S lm f 1 w (s.1 + 1, s.2) = r at a1 a2 a3 ⊢
        have a2 : s.1 + 1 ≤ r.1.1 := a2
        obtain ⟨b1, b2, b3⟩ := call 4 (by decide) w r.1 a1 (by show 8 * (lm - r.1.1) + 1 ≤ f; omega)
        generalize l_p S lm f 4 w r.1 = q at b1 b2 b3 ⊢
        refine ⟨b1, by show s.1 ≤ q.1.1; omega, fun y => ?_⟩
        obtain ⟨g1, g2, g3, -⟩ := b3 y
        obtain ⟨d1, d2, -, d4⟩ := a3 g1
        have g2 : (q.2.length : Int) ≤ q.1.1 - r.1.1 + 0 := g2
        have d2 : (r.2.length : Int) ≤ r.1.1 - (s.1 + 1) + 0 := d2
        refine ⟨zz.1, ?_, fun _ => (l_WL_op (d4 (by decide)) (by omega) (g3 (by decide))).1, fun z => absurd (by decide) z⟩
        show ((r.2 ++ (3000 + S s.1) :: q.2).length : Int) ≤ q.1.1 - s.1 + 0
        rw [List.length_append, List.length_cons]; omega
      · rw [if_neg z]
        exact ⟨ok, Int.le_refl _, fun y => ⟨y, by show ((0 : Nat) : Int) ≤ s.1 - s.1 + 0; omega, fun _ => l_WL_nil.1, fun z => absurd (by decide) z⟩⟩
    · have hm : 8 * (lm - s.1) + 5 ≤ f + 1 := hm
      rw [l_p5]
      obtain ⟨a1, a2, a3⟩ := call 3 (by decide) w s ok (by show 8 * (lm - s.1) + 4 ≤ f; omega)
      have K : l_OK lm 3 s (l_p S lm f 3 w s) := ⟨a1, a2, a3⟩
      by_cases z : t_is S lm (l_p S lm f 3 w s).1 60 ∨ t_is S lm (l_p S lm f 3 w s).1 62 ∨ t_is S lm (l_p S lm f 3 w s).1 61
      · rw [if_pos z]
        generalize l_p S lm f 3 w s = r at a1 a2 a3 z ⊢
        have zz : r.1.2 = -1 ∧ r.1.1 < lm ∧ (S r.1.1 = 60 ∨ S r.1.1 = 62 ∨ S r.1.1 = 61) := by rcases z with z | z | z <;> exact ⟨z.1, z.2.1, by have := z.2.2; omega⟩
        obtain ⟨b1, b2, b3⟩ := call 3 (by decide) w (r.1.1 + 1, r.1.2) (a1.nx (S := S) zz.2.1) (by show 8 * (lm - (r.1.1 + 1)) + 4 ≤ f; omega)
        generalize l_p S lm f 3 w (r.1.1 + 1, r.1.2) = q at b1 b2 b3 ⊢
        have b2 : r.1.1 + 1 ≤ q.1.1 := b2
        refine ⟨b1, by show s.1 ≤ q.1.1; omega, fun y => ?_⟩
        obtain ⟨g1, g2, -, g4⟩ := b3 y
        obtain ⟨d1, d2, -, d4⟩ := a3 g1
        have g2 : (q.2.length : Int) ≤ q.1.1 - (r.1.1 + 1) + 0 := g2
        have d2 : (r.2.length : Int) ≤ r.1.1 - s.1 + 0 := d2
        refine ⟨d1, ?_, fun z => by omega, fun _ => (l_W_cmp (d4 (by decide)) (g4 (by decide)) (by omega)).1⟩
        show ((r.2 ++ q.2 ++ [3000 + S r.1.1]).length : Int) ≤ q.1.1 - s.1 + 0
        rw [List.length_append, List.length_append]; show ((r.2.length + q.2.length + 1 : Nat) : Int) ≤ _; omega
      · rw [if_neg z]
        exact ⟨K.1, K.2.1, fun y => ⟨(K.2.2 y).1, (K.2.2 y).2.1, fun q => by omega, fun _ => (K.2.2 y).2.2.2 (by decide)⟩⟩
/-- a minus more -/
theorem q_oineg_2 {x : Int} (h : q_in32 x) : q_oineg (q_oineg x) = x := by
  unfold q_oineg
  rw [Int32.ofInt_toInt, Int32.neg_neg, q_t32 h]
theorem l_mem {S : Int → Int} {lm : Int} : ∀ (f md : Nat) (w : Int) (s : a_R) (x : Int), x ∈ (l_p S lm f md w s).2 → 0 ≤ x ∧ x ≤ 4000 := by
  intro f
  induction f with
  | zero => intro md w s x h; exact absurd h (by simp [l_p])
  | succ f ih =>
    intro md w s x h
    simp only [l_p] at h
    split at h
    · split at h
      · exact ih _ _ _ _ h
      · split at h
        · have v := t_nm_v (S := S) (lm := lm) (k := 3) (s := s) (by decide)
          simp only [List.mem_singleton] at h; omega
        · split at h
          · have := l_ix_r (S s.1)
            rename_i z
            simp only [List.mem_singleton] at h; have := z.2.2; omega
          · exact absurd h (by simp)
    · split at h
      · split at h <;> exact ih _ _ _ _ h
      · split at h
        · split at h
          · exact ih _ _ _ _ h
          · rcases List.mem_append.mp h with h | h
            · exact ih _ _ _ _ h
            · simp only [List.mem_singleton] at h; omega
        · split at h
          · rcases List.mem_append.mp h with h | h <;> exact ih _ _ _ _ h
          · split at h
            · split at h
              · rename_i z
                rcases List.mem_append.mp h with h | h
                · exact ih _ _ _ _ h
                · rcases List.mem_cons.mp h with h | h
                  · rcases z with z | z <;> (have := z.2.2; omega)
                  · exact ih _ _ _ _ h
              · exact absurd h (by simp)
            · split at h
              · rcases List.mem_append.mp h with h | h <;> exact ih _ _ _ _ h
              · split at h
                · split at h
                  · rename_i z
                    rcases List.mem_append.mp h with h | h
                    · exact ih _ _ _ _ h
                    · rcases List.mem_cons.mp h with h | h
                      · rcases z with z | z <;> (have := z.2.2; omega)
                      · exact ih _ _ _ _ h
                  · exact absurd h (by simp)
                · split at h
                  · rename_i z
                    rcases List.mem_append.mp h with h | h
                    · rcases List.mem_append.mp h with h | h <;> exact ih _ _ _ _ h
                    · simp only [List.mem_singleton] at h
                      rcases z with z | z | z <;> (have := z.2.2; omega)
                  · exact ih _ _ _ _ h
theorem q_ob {x : Int32} : q_in32 x.toInt := q_r32 x
theorem l_jo_in {ch a b : Int} : q_in32 (l_jo ch a b) := by
  unfold l_jo
  repeat' split
  all_goals first | exact q_w32_in _ | exact q_r32 _ | exact q_in_of (by decide) (by decide)
theorem c_run_in {e : Int → Int} (he : ∀ i, q_in32 (e i)) : ∀ (c st : List Int), (∀ x ∈ c, 0 ≤ x ∧ x ≤ 4000) → (∀ x ∈ st, q_in32 x) → ∀ x ∈ c_run e c st, q_in32 x := by
  intro c
  induction c with
  | nil => intro st _ hs; exact hs
  | cons y c ih =>
    intro st hc hs
    rw [c_run_cons]
    refine ih _ (fun x hx => hc x (List.mem_cons_of_mem _ hx)) ?_
    have hy := hc y List.mem_cons_self
    unfold c_st
    split
    · intro x hx
      rcases List.mem_cons.mp hx with h | h
      · rw [h]; exact l_jo_in
      · exact hs x (List.mem_of_mem_drop h)
    · split
      · intro x hx
        rcases List.mem_cons.mp hx with h | h
        · rw [h]; exact q_r32 _
        · exact hs x (List.mem_of_mem_drop h)
      · intro x hx
        rcases List.mem_cons.mp hx with h | h
        · rw [h]; split
          · exact he _
          · exact q_in_of (by omega) (by omega)
        · exact hs x h
theorem c_val_in {e : Int → Int} (he : ∀ i, q_in32 (e i)) {c : List Int} (hc : ∀ x ∈ c, 0 ≤ x ∧ x ≤ 4000) : q_in32 (c_val e c) := by
  have h := c_run_in he c [] hc (fun x hx => absurd hx (by simp))
  unfold c_val
  cases hr : c_run e c [] with
  | nil => exact q_in_of (by decide) (by decide)
  | cons a r => exact h a (by rw [hr]; exact List.mem_cons_self)
theorem l_60 {S : Int → Int} {lm : Int} {e : Int → Int} (he : ∀ i, q_in32 (e i)) : ∀ (f : Nat) (w : Int) (s : a_R), t_ok lm s → 8 * (lm - s.1) + 2 ≤ f → (l_p S lm f 6 w s).1 = (l_p S lm f 0 w s).1 ∧ ((l_p S lm f 0 w s).1.2 = -1 → c_val e (l_p S lm f 6 w s).2 = q_oineg (c_val e (l_p S lm f 0 w s).2)) := by
  intro f
  induction f with
  | zero => intro w s ok hm; have := ok.2.1; omega
  | succ f ih =>
    intro w s ok hm
    rw [l_p6, l_p0]
    by_cases z : t_is S lm s 45
    · rw [if_pos z, if_pos z]
      obtain ⟨a, b⟩ := ih w (s.1 + 1, s.2) (ok.nx (S := S) z.2.1) (by show 8 * (lm - (s.1 + 1)) + 2 ≤ (f : Int); omega)
      refine ⟨a.symm, fun y => ?_⟩
      rw [a] at y
      rw [b y, q_oineg_2 (c_val_in he (l_mem f 0 w _))]
    · rw [if_neg z, if_neg z]
      refine ⟨rfl, fun y => ?_⟩
      have o := l_ok (S := S) f 7 w s (by decide) ok (by show 8 * (lm - s.1) + 1 ≤ (f : Int); omega)
      exact (l_W_neg ((o.2.2 y).2.2.2 (by decide))).2 e
