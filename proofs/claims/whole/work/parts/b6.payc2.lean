/-! ===== the class's pourings that pay ===== -/
theorem b_dg {x s k : Nat} (hx : x < 4611686018427387904) (hs : s < 64) (hk : k ≤ 31) : q_oiand (q_ol2i (q_olushr (x : Int) (s : Int))) ((2 ^ k - 1 : Nat) : Int) = ((x / 2 ^ s % 2 ^ k : Nat) : Int) := by
  have le : x / 2 ^ s ≤ x := Nat.div_le_self _ _
  rw [b_shr hs (by omega) (by omega), Int.toNat_natCast, b_low hk (Int.natCast_nonneg _) (by have := Int.ofNat_le.mpr le; omega), Int.toNat_natCast]
theorem b_pk_up2 {c : Nat} {f g : Int → Int} {j : Nat} (k : Nat) (hj : j < k) (hne : ∀ i : Int, 0 ≤ i → i < k → i ≠ j → g i = f i) (hf : 0 ≤ f j) (hg : 0 ≤ g j) : (b_pk c g k : Int) = b_pk c f k + (g j - f j) * ((c ^ j : Nat) : Int) := by
  have e : b_pk c g k = b_pk c (fun i => if i = (j : Int) then g j else f i) k := b_pk_ext k (fun i i0 i1 => by
    show g i = if i = (j : Int) then g j else f i
    by_cases z : i = (j : Int)
    · rw [if_pos z, z]
    · rw [if_neg z]; exact hne i i0 i1 z)
  have u := b_pk_up (c := c) (f := f) (g := fun i => if i = (j : Int) then g j else f i) (j := j) (fun i hi => by show (if i = (j : Int) then g j else f i) = f i; rw [if_neg hi]) hf (by show 0 ≤ (if (j : Int) = j then g j else f j); rw [if_pos rfl]; exact hg) k hj
  have v : (if (j : Int) = j then g j else f j) = g j := if_pos rfl
  rw [e, u]
  show _ + ((if (j : Int) = j then g j else f j) - f j) * _ = _
  rw [v]
theorem p64 (j : Nat) : 64 ^ j = 2 ^ (6 * j) := by rw [Nat.pow_mul]
theorem p1024 (j : Nat) : 1024 ^ j = 2 ^ (10 * j) := by rw [Nat.pow_mul]
section PAYD
variable {b : Int} {m : qm} {n : Nat} {T : a_T}
theorem b_lev (t : a_TV n T) {i : Int} {f : Int → Int} (c : c_sT m i n f) (h : b_ok n T f) {j : Int} (hj : 0 ≤ j ∧ j < n) : q_oiand (q_ol2i (q_olushr (m 164 (i * 7)) (6 * j))) 63 = f j := by
  have n9 := t.1
  have pl := b_pl t h
  obtain ⟨j', rfl⟩ : ∃ j' : Nat, j = j' := ⟨j.toNat, by omega⟩
  have q := b_dg (x := b_pk 64 f n) (s := 6 * j') (k := 6) (by omega) (by omega) (by decide)
  have d := b_pk_dig (f := f) (c := 64) (by decide) n j' (by omega) (b_l64 t h)
  have hf := h.1 j' hj.1 hj.2
  rw [c.1, show (6 * (j' : Int)) = ((6 * j' : Nat) : Int) by omega]
  have e : ((2 ^ 6 - 1 : Nat) : Int) = 63 := rfl
  rw [e, ← p64, show (2 : Nat) ^ 6 = 64 from rfl, d] at q
  rw [q]; omega
theorem b_deb {i : Int} {f : Int → Int} (c : c_sT m i n f) (h : b_ok n T f) {o j : Int} (ho : 0 ≤ o ∧ o < 6) (hj : 0 ≤ j ∧ j < 6) : q_oiand (q_ol2i (q_olushr (m 164 (i * 7 + 1 + o)) (10 * j))) 1023 = f (9 + (6 * o + j)) := by
  have pd := b_pd h ho
  obtain ⟨j', rfl⟩ : ∃ j' : Nat, j = j' := ⟨j.toNat, by omega⟩
  have q := b_dg (x := b_pk 1024 (fun t => f (9 + (6 * o + t))) 6) (s := 10 * j') (k := 10) (by omega) (by omega) (by decide)
  have d := b_pk_dig (f := fun t => f (9 + (6 * o + t))) (c := 1024) (by decide) 6 j' (by omega) (b_d1024 h ho)
  have hf := h.2.1 (6 * o + j') (by omega) (by omega)
  rw [c.2 o ho.1 ho.2, show (10 * (j' : Int)) = ((10 * j' : Nat) : Int) by omega]
  have e : ((2 ^ 10 - 1 : Nat) : Int) = 1023 := rfl
  rw [e, ← p1024, show (2 : Nat) ^ 10 = 1024 from rfl, d] at q
  rw [q]; omega
theorem sp_levelInC (t : a_TV n T) {i : Int} {f : Int → Int} (c : c_sT m i n f) (h : b_ok n T f) (hi : 0 ≤ i ∧ i ≤ 3000) {j : Int} (hj : 0 ≤ j ∧ j < n) : q_Ev yX4_levelIn cX4_levelIn 3 (some .int) 1 0 0 [(2, 163), (0, i), (0, j)] (q_sh0, q_rb b, m) (qK (q_rb b) (fun r m' => m' = m ∧ r = f j)) := by
  have n9 := t.1
  refine q_enter (by decide +kernel) (by simp) (Nat.le_of_ble_eq_true rfl) ?_
  exact bkX4_levelIn_0 ⟨q_in_of (by omega) (by omega), by omega, q_in_of (by omega) (by omega)⟩ ⟨rfl, b_lev t c h hj⟩
theorem sp_canPayC (t : a_TV n T) (cT : c_T m n T) {i : Int} {f : Int → Int} (c : c_sT m i n f) (h : b_ok n T f) (hi : 0 ≤ i ∧ i ≤ 3000) {x y : Int} (hx : 0 ≤ x ∧ x < n) (hy : 0 ≤ y ∧ y < n) : q_Ev yX4_canPay cX4_canPay 7 (some .int) 2 0 0 [(2, 163), (0, i), (0, x), (0, y)] (q_sh0, q_rb b, m) (qK (q_rb b) (fun r m' => m' = m ∧ r = b_due T f x y)) := by
  have n9 := t.1
  have tx := t.2 x hx.1 hx.2
  have ty := t.2 y hy.1 hy.2
  have ex : m 3 x = T.2.1 x := cT.2.2.1 x hx.1 hx.2
  have ey : m 3 y = T.2.1 y := cT.2.2.1 y hy.1 hy.2
  have e2 : m 2 y = T.1 y := cT.2.1 y hy.1 hy.2
  have fy := h.1 y hy.1 hy.2
  refine q_enter (by decide +kernel) (by simp) (Nat.le_of_ble_eq_true rfl) ?_
  refine bkX4_canPay_0 (P2 := fun _ _ r m' => m' = m ∧ r = f y) ?_ (sp_levelInC t c h hi hx) ?_ ?_ ?_
  · rw [ex, ey]; exact ⟨q_in_of (by omega) (by omega), q_in_of (by omega) (by omega), by omega, q_in_of (by omega) (by omega), by omega, by omega, q_in_of (by omega) (by omega)⟩
  · rintro r1 m1 ⟨rfl, -⟩ _
    exact sp_levelInC t c h hi hy
  · rintro r1 m1 ⟨rfl, -⟩ _ r2 m2 ⟨-, er⟩ _
    rw [e2, er]; exact q_in_of (by omega) (by omega)
  · rintro r1 m1 ⟨rfl, e1⟩ _ r2 m2 ⟨em, er⟩ _
    refine ⟨em, ?_⟩
    rw [ex, ey, b_deb c h (by omega) (by omega), e1, e2, er]
    rfl
theorem sp_writeNextC (t : a_TV n T) (cT : c_T m n T) {i k : Int} {f : Int → Int} (hk : m 163 5 = k) (hk0 : 0 ≤ k ∧ k ≤ 3000) (c : c_sT m i n f) (h : b_ok n T f) (hi : 0 ≤ i ∧ i < k) {x y : Int} (hx : 0 ≤ x ∧ x < n) (hy : 0 ≤ y ∧ y < n) (hw : 0 < b_due T f x y) : q_Ev yX4_writeNext cX4_writeNext 6 none 1 0 0 [(2, 163), (0, i), (0, x), (0, y), (0, b_due T f x y)] (q_sh0, q_rb b, m) (qK (q_rb b) (fun _ m' => c_sT m' k n (b_nx T f x y (b_due T f x y)) ∧ q_fx (fun c i => c = 164 ∧ k * 7 ≤ i ∧ i < k * 7 + 7) m m')) := by
  have n9 := t.1
  have tx := t.2 x hx.1 hx.2
  have ty := t.2 y hy.1 hy.2
  have ex : m 3 x = T.2.1 x := cT.2.2.1 x hx.1 hx.2
  have ey : m 3 y = T.2.1 y := cT.2.2.1 y hy.1 hy.2
  obtain ⟨p1, p2, p3, p4, p5⟩ := b_due_p t h hx hy hw
  have ok' := h.nx t hx hy hw
  have fx := h.1 x hx.1 hx.2
  have fy := h.1 y hy.1 hy.2
  generalize hwe : b_due T f x y = w at *
  have w60 : w ≤ 60 := by omega
  obtain ⟨x', rfl⟩ : ∃ x' : Nat, x = x' := ⟨x.toNat, by omega⟩
  obtain ⟨y', rfl⟩ : ∃ y' : Nat, y = y' := ⟨y.toNat, by omega⟩
  have P : ∀ j : Nat, j < 9 → (2 : Nat) ^ (6 * j) ≤ 281474976710656 := fun j hj => by
    have := Nat.pow_le_pow_right (n := 2) (by decide) (show 6 * j ≤ 48 by omega)
    have e : (2 : Nat) ^ 48 = 281474976710656 := by decide
    omega
  have P2 : ∀ j : Nat, j < 6 → (2 : Nat) ^ (10 * j) ≤ 1125899906842624 := fun j hj => by
    have := Nat.pow_le_pow_right (n := 2) (by decide) (show 10 * j ≤ 50 by omega)
    have e : (2 : Nat) ^ 50 = 1125899906842624 := by decide
    omega
  have M : ∀ q : Nat, w.toNat * q ≤ 60 * q := fun q => Nat.mul_le_mul_right q (by omega)
  have px := P x' (by omega)
  have py := P y' (by omega)
  have sx : q_olshl w (6 * (x' : Int)) = ((w.toNat * 2 ^ (6 * x') : Nat) : Int) := by
    rw [show (6 * (x' : Int)) = ((6 * x' : Nat) : Int) by omega]
    exact b_shl (by omega) (by omega) (by have := M (2 ^ (6 * x')); omega) (by omega)
  have sy : q_olshl w (6 * (y' : Int)) = ((w.toNat * 2 ^ (6 * y') : Nat) : Int) := by
    rw [show (6 * (y' : Int)) = ((6 * y' : Nat) : Int) by omega]
    exact b_shl (by omega) (by omega) (by have := M (2 ^ (6 * y')); omega) (by omega)
  obtain ⟨o', ho'⟩ : ∃ o' : Nat, T.2.1 y' = o' := ⟨(T.2.1 y').toNat, by omega⟩
  have po := P2 o' (by omega)
  have so : q_olshl w (10 * T.2.1 y') = ((w.toNat * 2 ^ (10 * o') : Nat) : Int) := by
    rw [ho', show (10 * (o' : Int)) = ((10 * o' : Nat) : Int) by omega]
    exact b_shl (by omega) (by omega) (by have := M (2 ^ (10 * o')); omega) (by omega)
  -- the levels' number
  have lev : ((b_pk 64 (b_nx T f x' y' w) n : Nat) : Int) = ((b_pk 64 f n : Nat) : Int) + (((w.toNat * 2 ^ (6 * y') : Nat) : Int) - ((w.toNat * 2 ^ (6 * x') : Nat) : Int)) := by
    have u1 := b_pk_up2 (c := 64) (f := f) (g := fun i => if i = (x' : Int) then f x' - w else f i) (j := x') n (by omega) (fun i _ _ hne => by show (if i = (x' : Int) then f x' - w else f i) = f i; rw [if_neg hne]) fx.1 (by show 0 ≤ (if (x' : Int) = x' then f x' - w else f x'); rw [if_pos rfl]; omega)
    have u2 := b_pk_up2 (c := 64) (f := fun i => if i = (x' : Int) then f x' - w else f i) (g := fun i => if i = (y' : Int) then f y' + w else if i = (x' : Int) then f x' - w else f i) (j := y') n (by omega) (fun i _ _ hne => by show (if i = (y' : Int) then f y' + w else _) = _; rw [if_neg hne]) (by show 0 ≤ (if (y' : Int) = x' then f x' - w else f y'); rw [if_neg (Ne.symm p2)]; exact fy.1) (by show 0 ≤ (if (y' : Int) = y' then f y' + w else _); rw [if_pos rfl]; omega)
    have v1 : (if (x' : Int) = x' then f x' - w else f x') = f x' - w := if_pos rfl
    have v2 : (if (y' : Int) = y' then f y' + w else if (y' : Int) = x' then f x' - w else f y') = f y' + w := if_pos rfl
    have v3 : (if (y' : Int) = x' then f x' - w else f y') = f y' := if_neg (Ne.symm p2)
    replace u1 := u1.trans (show _ = ((b_pk 64 f n : Nat) : Int) + (f x' - w - f x') * ((64 ^ x' : Nat) : Int) by
      show _ + ((if (x' : Int) = x' then f x' - w else f x') - f x') * _ = _
      rw [v1])
    replace u2 := u2.trans (show _ = ((b_pk 64 (fun i => if i = (x' : Int) then f x' - w else f i) n : Nat) : Int) + (f y' + w - f y') * ((64 ^ y' : Nat) : Int) by
      show _ + ((if (y' : Int) = y' then f y' + w else if (y' : Int) = x' then f x' - w else f y') - (if (y' : Int) = x' then f x' - w else f y')) * _ = _
      rw [v2, v3])
    have u3 : b_pk 64 (b_nx T f x' y' w) n = b_pk 64 (fun i => if i = (y' : Int) then f y' + w else if i = (x' : Int) then f x' - w else f i) n := b_pk_ext n (fun j j0 j1 => by
      unfold b_nx
      by_cases e1 : j = (x' : Int)
      · rw [if_pos e1]
        show f x' - w = (if j = (y' : Int) then f y' + w else if j = (x' : Int) then f x' - w else f j)
        rw [if_neg (fun z => p2 (by omega)), if_pos e1]
      · rw [if_neg e1]
        show (if j = (y' : Int) then f y' + w else _) = (if j = (y' : Int) then f y' + w else if j = (x' : Int) then f x' - w else f j)
        by_cases e2 : j = (y' : Int)
        · rw [if_pos e2, if_pos e2]
        · rw [if_neg e2, if_neg e2, if_neg e1, if_neg (by omega)])
    rw [u3, u2, u1, Int.natCast_mul, Int.natCast_mul, ← p64, ← p64, Int.toNat_of_nonneg (by omega), show f x' - w - f x' = -w by omega, show f y' + w - f y' = w by omega, Int.neg_mul]
    omega
  have deb : ((b_pk 1024 (fun t => b_nx T f x' y' w (9 + (6 * T.2.1 x' + t))) 6 : Nat) : Int) = ((b_pk 1024 (fun t => f (9 + (6 * T.2.1 x' + t))) 6 : Nat) : Int) - ((w.toNat * 2 ^ (10 * o') : Nat) : Int) := by
    have hd := h.2.1 (6 * T.2.1 x' + T.2.1 y') (by omega) (by omega)
    have g1 : b_nx T f x' y' w (9 + (6 * T.2.1 x' + (o' : Int))) = f (9 + (6 * T.2.1 x' + (o' : Int))) - w := by
      unfold b_nx
      rw [if_neg (by omega), if_neg (by omega), if_pos (by rw [ho'])]
    rw [ho'] at hd p5
    have u := b_pk_up2 (c := 1024) (f := fun t => f (9 + (6 * T.2.1 x' + t))) (g := fun t => b_nx T f x' y' w (9 + (6 * T.2.1 x' + t))) (j := o') 6 (by omega) (fun i i0 i1 hne => by
      show b_nx T f x' y' w (9 + (6 * T.2.1 x' + i)) = _
      unfold b_nx
      rw [if_neg (by omega), if_neg (by omega), if_neg (by omega)]) hd.1 (by show 0 ≤ b_nx T f x' y' w (9 + (6 * T.2.1 x' + (o' : Int))); rw [g1]; omega)
    rw [u, Int.natCast_mul, ← p1024, Int.toNat_of_nonneg (by omega)]
    show _ + (b_nx T f x' y' w (9 + (6 * T.2.1 x' + (o' : Int))) - f (9 + (6 * T.2.1 x' + (o' : Int)))) * _ = _
    rw [g1, show f (9 + (6 * T.2.1 x' + (o' : Int))) - w - f (9 + (6 * T.2.1 x' + (o' : Int))) = -w by omega, Int.neg_mul]
    omega
  have hd0 := b_pd h (o := T.2.1 x') (by omega)
  have hl0 := b_pl t h
  have hd1 := b_pd ok' (o := T.2.1 x') (by omega)
  have hl1 := b_pl t ok'
  have mx := M (2 ^ (6 * x'))
  have my := M (2 ^ (6 * y'))
  have mo := M (2 ^ (10 * o'))
  have ox : ∀ j : Int, 0 ≤ j → j < 6 → j ≠ T.2.1 x' → b_pk 1024 (fun t => b_nx T f x' y' w (9 + (6 * j + t))) 6 = b_pk 1024 (fun t => f (9 + (6 * j + t))) 6 := fun j j0 j1 jn => b_pk_ext 6 (fun s s0 s1 => by
    show b_nx T f x' y' w (9 + (6 * j + s)) = f (9 + (6 * j + s))
    unfold b_nx
    rw [if_neg (by omega), if_neg (by omega), if_neg (by omega)])
  refine q_enter (by decide +kernel) (by simp) (Nat.le_of_ble_eq_true rfl) ?_
  refine bkX4_writeNext_0 ?_ ?_
  · rw [hk, ex, ey]
    exact ⟨q_in_of (by omega) (by omega), q_in_of (by omega) (by omega), by omega, by omega, by omega, by omega, by omega, by omega, q_in_of (by omega) (by omega), q_in_of (by omega) (by omega), q_in_of (by omega) (by omega), by omega, q_in_of (by omega) (by omega), by omega, by omega, q_in_of (by omega) (by omega)⟩
  · rw [hk, ex, ey, sx, sy, so]
    have r0 : q_cp m 164 (i * 7) 164 (k * 7) 7 164 (k * 7) = ((b_pk 64 f n : Nat) : Int) := by rw [q_cp_in (by omega) (by omega), show i * 7 + (k * 7 - k * 7) = i * 7 by omega, c.1]
    have w0 : q_w64 (q_cp m 164 (i * 7) 164 (k * 7) 7 164 (k * 7) + q_w64 (((w.toNat * 2 ^ (6 * y') : Nat) : Int) - ((w.toNat * 2 ^ (6 * x') : Nat) : Int))) = ((b_pk 64 (b_nx T f x' y' w) n : Nat) : Int) := by
      rw [r0, q_w64_id (x := ((w.toNat * 2 ^ (6 * y') : Nat) : Int) - ((w.toNat * 2 ^ (6 * x') : Nat) : Int)) ⟨by omega, by omega⟩, ← lev]
      exact q_w64_id ⟨by omega, by omega⟩
    rw [w0]
    have r1 : ∀ v, q_up (q_cp m 164 (i * 7) 164 (k * 7) 7) 164 (k * 7) v 164 (k * 7 + 1 + T.2.1 x') = ((b_pk 1024 (fun t => f (9 + (6 * T.2.1 x' + t))) 6 : Nat) : Int) := fun v => by
      rw [q_up_i (by omega), q_cp_in (by omega) (by omega), show i * 7 + (k * 7 + 1 + T.2.1 x' - k * 7) = i * 7 + 1 + T.2.1 x' by omega, c.2 _ (by omega) (by omega)]
    have w1 : ∀ v, q_w64 (q_up (q_cp m 164 (i * 7) 164 (k * 7) 7) 164 (k * 7) v 164 (k * 7 + 1 + T.2.1 x') - ((w.toNat * 2 ^ (10 * o') : Nat) : Int)) = ((b_pk 1024 (fun t => b_nx T f x' y' w (9 + (6 * T.2.1 x' + t))) 6 : Nat) : Int) := fun v => by
      rw [r1, ← deb]
      exact q_w64_id ⟨by omega, by omega⟩
    rw [w1]
    refine ⟨⟨?_, fun o o0 o1 => ?_⟩, ?_⟩
    · rw [q_up_i (by omega), q_up_s]
    · by_cases e : o = T.2.1 x'
      · rw [e, q_up_s]
      · rw [q_up_i (by omega), q_up_i (by omega), q_cp_in (by omega) (by omega), show i * 7 + (k * 7 + 1 + o - k * 7) = i * 7 + 1 + o by omega, c.2 o o0 o1, ox o o0 o1 e]
    · intro c' i' hn
      have hn' : c' ≠ 164 ∨ i' < k * 7 ∨ k * 7 + 7 ≤ i' := by omega
      by_cases e : c' = 164
      · subst e
        rw [q_up_i (by omega), q_up_i (by omega), q_cp_out (by omega)]
      · rw [q_up_c e, q_up_c e, q_cp_c e]
end PAYD
