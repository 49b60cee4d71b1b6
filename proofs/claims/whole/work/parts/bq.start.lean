/-! ===== the start (written by laws.py) ===== -/
theorem m0_pts : q_mem0 1 3 = 0 ∧ q_mem0 188 0 = 0 ∧ q_mem0 5 8 = 0 ∧ q_mem0 5 9 = 0 ∧ q_mem0 188 10 = 0 ∧ q_mem0 188 11 = 0 ∧ q_mem0 188 12 = -1 ∧ q_mem0 145 1 = 0 ∧ q_mem0 188 14 = 0 ∧ q_mem0 0 16 = 0 ∧ q_mem0 188 16 = 0 ∧ q_mem0 159 3 = 0 ∧ q_mem0 188 49 = 0 := by decide +kernel
theorem m0_pts2 : q_mem0 33 1 = 0 ∧ q_mem0 33 2 = 0 ∧ q_mem0 188 30 = 0 ∧ q_mem0 188 51 = 0 ∧ q_mem0 223 0 = 0 ∧ q_mem0 223 1 = 0 ∧ q_mem0 144 0 = -1 ∧ q_mem0 144 1 = -1 ∧ q_mem0 149 5 = 0 ∧ q_mem0 188 25 = 0 := by decide +kernel
theorem m0_36 : ∀ d : Fin 36, q_mem0 12 (d.val : Int) = 0 ∧ q_mem0 197 (d.val : Int) = 0 := by decide +kernel
theorem m0_7 : ∀ d : Fin 7, q_mem0 13 (d.val : Int) = 0 := by decide +kernel
theorem m0_d {d : Int} (h0 : 0 ≤ d) (h1 : d < 36) : q_mem0 12 d = 0 ∧ q_mem0 197 d = 0 := by
  have h := m0_36 ⟨d.toNat, by omega⟩
  have e : ((d.toNat : Nat) : Int) = d := Int.toNat_of_nonneg h0
  simp only [e] at h
  exact h
theorem m0_o {d : Int} (h0 : 0 ≤ d) (h1 : d < 7) : q_mem0 13 d = 0 := by
  have h := m0_7 ⟨d.toNat, by omega⟩
  have e : ((d.toNat : Nat) : Int) = d := Int.toNat_of_nonneg h0
  simp only [e] at h
  exact h
theorem i_I0 : i_I (l_LW 0) 0 q_mem0 := by
  obtain ⟨p1, p2, p3, p4, p5, p6, p7, p8, p9, p10, p11, p12, p13⟩ := m0_pts
  obtain ⟨r1, r2, r3, r4, r5, r6, r7, r8, r9, r10⟩ := m0_pts2
  refine ⟨0, ⟨by omega, p1, p2, fun j a b => by omega⟩, fun j a b => by omega, ⟨⟨fun j a b => by omega, fun d a b => ?_, ?_, fun d a b => ?_, ?_, ?_⟩, fun j a b => by omega, fun d a b => ?_, fun d a b => ?_, ?_⟩, ⟨by omega, by omega, by omega, fun i a b => by omega⟩, ⟨by omega, by omega, by omega, fun i a b => by omega⟩, ⟨by omega, by omega, by omega, fun i a b => by omega⟩, ⟨by omega, by omega, by omega, by omega, by omega, fun i a b => by omega⟩, ⟨by omega, fun i a b => ?_⟩, ⟨[], ⟨r9, Nat.zero_le _, (fun _ h => nomatch h), (fun i h => absurd h (Nat.not_lt_zero i)), fun h => absurd rfl h⟩, ⟨by omega, by omega, ⟨fun _ => rfl, fun _ => r10⟩, fun h => absurd r10 h⟩⟩, by omega⟩
  · have h := m0_d a b
    show q_mem0 12 d = q_mem0 197 d
    omega
  · show q_mem0 5 8 = q_mem0 188 10
    omega
  · show 0 ≤ q_mem0 13 d
    have h := m0_o a b
    omega
  · show q_mem0 13 0 + q_mem0 13 1 + q_mem0 13 2 + q_mem0 13 3 + q_mem0 13 4 + q_mem0 13 5 + q_mem0 13 6 = q_mem0 188 11
    rw [m0_o (d := 0) (by decide) (by decide), m0_o (d := 1) (by decide) (by decide), m0_o (d := 2) (by decide) (by decide), m0_o (d := 3) (by decide) (by decide), m0_o (d := 4) (by decide) (by decide), m0_o (d := 5) (by decide) (by decide), m0_o (d := 6) (by decide) (by decide), p6]
    rfl
  · show q_mem0 5 9 = if q_mem0 188 12 = q_mem0 188 10 then 1 else 0
    rw [p4, p7, p5]
    rfl
  · have h := m0_d a b
    omega
  · have h := m0_d (d := 7 * d) (by omega) (by omega)
    exact h.2
  · refine ⟨?_, ?_, ?_, ?_, ?_, ?_⟩ <;> first | omega | (simp only [p5, p6, p7]; omega)
  · have hi : i = 0 ∨ i = 1 := by omega
    rcases hi with rfl | rfl
    · exact ⟨Or.inl r5, by omega, by omega, fun _ => r7, fun h => absurd h (by omega), fun h => absurd h (by omega)⟩
    · exact ⟨Or.inl r6, by omega, by omega, fun _ => r8, fun h => absurd h (by omega), fun h => absurd h (by omega)⟩
theorem q_rf0_b : q_rf0 = q_rb (q_rf0 188 18) := by
  funext c i
  unfold q_rb q_up
  by_cases h : c = 188 ∧ i = 18
  · rw [if_pos h, h.1, h.2]
  · rw [if_neg h]
theorem lw_begin {SC : Nat × Nat × (Nat → Int32)} (hsz : SC.2.1 ≤ 2560) : q_AtB x code 7 ret 738 211127 SC 0 [(4, 0), (4, 0), (4, 0), (4, 0), (4, 0), (4, 0), (4, 0)] [] ([], q_rfA, q_meA) := by
  have hl : q_AtS x code 7 ret 512 3072 SC 23 (s_L ((5 * 0 : Nat) : Int)) [] (q_sh0, q_rf0, q_mem0) := by
    rw [q_rf0_b]
    exact lw_loop hsz 512 0 _ _ rfl i_I0
  refine b_new (kc := 737) (ks := 211110) (n := 0) (ci := 11) (N := 17) (sh' := q_sh0.take 1) rfl (by decide +kernel) dLw_0 rfl tw22 tw23 tw1 ?_
  refine q_b_dup dLw_3 (by decide) ?_
  refine q_b_invI (c := 0) (st := [(2, 0)]) (kc := 550) (ks := 168946) (kc' := 187) (ks' := 42164) [] ct1 qM_X11_init dLw_4 tw24 rfl (by decide) (by decide) (by decide) ?_
  rintro r σ rfl _ _
  refine q_b_astore_n (i := 1) dLw_7 rfl (by decide) (by decide) (fun w hw _ => by cases hw; decide) ?_
  refine b_new (kc := 549) (ks := 168891) (n := 188) (ci := 12) (N := 55) (sh' := q_sh0.take 189) (by decide +kernel) (by decide +kernel) dLw_8 rfl tw1176 tw1177 tw13 ?_
  refine q_b_dup dLw_11 (by decide) ?_
  refine q_b_invI (c := 188) (st := [(2, 188)]) (kc := 513) (ks := 3073) (kc' := 36) (ks' := 165818) [] ct28 qM_X12_init dLw_12 tw1178 rfl (by decide) (by decide) (by decide) ?_
  rintro r σ rfl _ _
  refine q_b_astore_n (i := 2) dLw_15 rfl (by decide) (by decide) (fun w hw _ => by cases hw; decide) ?_
  refine q_b_iconst (v := 1) dLw_16 rfl ⟨by decide, by decide⟩ ?_
  refine b_newJ (kc := 512) (ks := 3072) (n := 225) (N := 1) (sh' := q_sh0) (by decide +kernel) (by decide +kernel) dLw_17 tw348 rfl (by decide) ?_
  refine q_b_astore_n (i := 3) dLw_19 rfl (by decide) (by decide) (fun w hw _ => by cases hw; decide) ?_
  refine q_b_iconst (v := 0) dLw_20 rfl ⟨by decide, by decide⟩ ?_
  refine q_b_istore (i := 4) dLw_21 (by decide) (by decide) (fun w hw _ => by cases hw; decide) ?_
  exact b_end rfl rfl hl

theorem k_inst : ∀ (ci : Nat) (C : String) (T : u_T) (N : Nat), q_cl[ci]? = some (C, T, N) → Cond.instantiable C N ∈ q_TB
  | 0, _, _, _, h => by cases h; exact tw129
  | 1, _, _, _, h => by cases h; exact tw145
  | 2, _, _, _, h => by cases h; exact tw251
  | 3, _, _, _, h => by cases h; exact tw184
  | 4, _, _, _, h => by cases h; exact tw324
  | 5, _, _, _, h => by cases h; exact tw304
  | 6, _, _, _, h => by cases h; exact tw204
  | 7, _, _, _, h => by cases h; exact tw65
  | 8, _, _, _, h => by cases h; exact tw277
  | 9, _, _, _, h => by cases h; exact tw31
  | 10, _, _, _, h => by cases h; exact tw229
  | 11, _, _, _, h => by cases h; exact tw23
  | 12, _, _, _, h => by cases h; exact tw1177
  | n + 13, _, _, _, h => by cases h
theorem k_know {s : State} {args : Array Value} (h8 : ∀ w ∈ q_TB, w.before args s = true) (hAO : (Cond.arrayOver (.object RX7)).before args s = true) : ∃ (D : va_G) (cid : Nat → ClassId), va_K D q_cl (q_tys cid) s := by
  have hc : ∀ c : Nat, ∃ (cC : ClassId) (iS : Nat → Nat), ∀ q : vw_C, q_cl[c]? = some q → u_Kn s q.1 q.2.1 q.2.2 cC iS := by
    intro c
    cases h : q_cl[c]? with
    | none => exact ⟨(0 : Nat), fun _ => 0, fun q hq => by cases hq⟩
    | some q =>
      obtain ⟨C, T, N⟩ := q
      obtain ⟨cC, iS, hk⟩ := u_known h8 (q_clo c C T N h).1 (h8 _ (k_inst c C T N h))
      exact ⟨cC, iS, fun q hq => by cases hq; exact hk⟩
  have ha : ∀ ty : FieldType, (Cond.arrayClass ty).before args s = true → ∃ cA : ClassId, ArrOfT s cA ty ∧ s.vm.findClass ("[" ++ ty.toString) = some cA := by
    intro ty h
    obtain ⟨c, k, comp, h1, h2, h3⟩ := Cond.arrayClass_spec h
    exact ⟨c, fun n z => ⟨fun k h => (by cases h), k, h2, comp, h3⟩, h1⟩
  obtain ⟨c0, a0, b0⟩ := ha .int (h8 _ tw63)
  obtain ⟨c1, a1, b1⟩ := ha .long (h8 _ tw348)
  obtain ⟨c2, a2, b2⟩ := ha .byte (h8 _ tw1166)
  obtain ⟨c3, a3, b3⟩ := ha .boolean (h8 _ tw1349)
  obtain ⟨comp, c4, k4, f1, -, f3, f4, f5⟩ := Cond.arrayOver_spec hAO
  refine ⟨(fun c => Classical.choose (hc c), fun c => Classical.choose (Classical.choose_spec (hc c))), fun k => match k with | 0 => c0 | 1 => c1 | 2 => c2 | 3 => c3 | _ => c4, fun c q hq => Classical.choose_spec (Classical.choose_spec (hc c)) q hq, fun k q hq => ?_⟩
  match k, hq with
  | 0, hq => cases hq; exact ⟨a0, b0⟩
  | 1, hq => cases hq; exact ⟨a1, b1⟩
  | 2, hq => cases hq; exact ⟨a2, b2⟩
  | 3, hq => cases hq; exact ⟨a3, b3⟩
  | 4, hq => cases hq; exact ⟨fun n z => ⟨fun k h => (by cases h), k4, f3, comp, f4⟩, k4, comp, f3, f4, f1, f5⟩
  | n + 5, hq => cases hq
theorem t_1 {w : Cond} (h : w ∈ tables_1_1) : w ∈ lw_tbl := List.mem_append_right _ (List.mem_append_left _ h)
theorem t_2 {w : Cond} (h : w ∈ tables_1_2) : w ∈ lw_tbl := List.mem_append_right _ (List.mem_append_right _ (List.mem_append_left _ h))
theorem t_3 {w : Cond} (h : w ∈ tables_1_3) : w ∈ lw_tbl := List.mem_append_right _ (List.mem_append_right _ (List.mem_append_right _ (List.mem_append_left _ h)))
theorem t_5 {w : Cond} (h : w ∈ tables_1_5) : w ∈ lw_tbl := List.mem_append_right _ (List.mem_append_right _ (List.mem_append_right _ (List.mem_append_right _ (List.mem_append_right _ (List.mem_append_left _ h)))))
theorem k_X {s : State} {args : Array Value} (hts : ∀ w ∈ lw_tbl, w.before args s = true) : q_X s :=
  ⟨va_AO.of (hts _ (t_1 (List.mem_of_getElem? (i := 190) rfl))), List.forall_mem_cons.mpr ⟨va_Nw.of rfl (hts _ (t_1 (List.mem_of_getElem? (i := 32) rfl))), List.forall_mem_cons.mpr ⟨va_Nw.of rfl (hts _ (t_1 (List.mem_of_getElem? (i := 66) rfl))), List.forall_mem_cons.mpr ⟨va_Nw.of rfl (hts _ (t_1 (List.mem_of_getElem? (i := 191) rfl))), List.forall_mem_cons.mpr ⟨va_Nw.of rfl (hts _ (t_1 (List.mem_of_getElem? (i := 205) rfl))), List.forall_mem_cons.mpr ⟨va_Nw.of rfl (hts _ (t_2 (List.mem_of_getElem? (i := 12) rfl))), List.forall_mem_cons.mpr ⟨va_Nw.of rfl (hts _ (t_2 (List.mem_of_getElem? (i := 38) rfl))), List.forall_mem_cons.mpr ⟨va_Nw.of rfl (hts _ (t_2 (List.mem_of_getElem? (i := 65) rfl))), fun _ h => nomatch h⟩⟩⟩⟩⟩⟩⟩⟩
theorem k_str {s : State} {args : Array Value} {c : ClassId} {ix : Nat} {tx : String} (hc : s.vm.findClass RX11 = some c) (h : (Cond.stringRef RX11 ix tx).before args s = true) : ∃ a : Nat, vk_R RX11 ix tx a s := by
  obtain ⟨k, cf, i, a, -, -, -, -, -, h2⟩ := Cond.stringRef_spec hc h
  exact ⟨a, vk_R.of h h2⟩
theorem k_Y {s : State} {args : Array Value} {A : Nat → Prop} {c : ClassId} (hc : s.vm.findClass RX11 = some c) (hts : ∀ w ∈ lw_tbl, w.before args s = true) (hA : ∀ a : Nat, a < s.heap.size → ¬ A a) (hu : (Cond.isRef (.static Bundle.tN "UNASSIGNED_STACK" Bundle.steD)).before args s = true) (hse : (Cond.isRef (.static Bundle.tN "SUPPRESSED_SENTINEL" Bundle.listD)).before args s = true) : y_Y A s s.heap := by
  have hb : ∀ w ∈ y_bd, w ∈ lw_tbl := List.forall_mem_cons.mpr ⟨t_5 (List.mem_of_getElem? (i := 145) rfl), List.forall_mem_cons.mpr ⟨t_5 (List.mem_of_getElem? (i := 149) rfl), List.forall_mem_cons.mpr ⟨t_5 (List.mem_of_getElem? (i := 147) rfl), List.forall_mem_cons.mpr ⟨t_5 (List.mem_of_getElem? (i := 143) rfl), fun _ h => nomatch h⟩⟩⟩⟩
  exact ⟨fun w hw => y_bdw (a := args) hw (State.WarmedH.refl s) (hts w (hb w hw)), k_str hc (hts _ (t_5 (List.mem_of_getElem? (i := 180) rfl))), k_str hc (hts _ (t_5 (List.mem_of_getElem? (i := 207) rfl))), k_str hc (hts _ (t_5 (List.mem_of_getElem? (i := 215) rfl))), y_Z.of (hts _ (t_5 (List.mem_of_getElem? (i := 168) rfl))) hu hA, y_Z.of (hts _ (t_5 (List.mem_of_getElem? (i := 170) rfl))) hse hA⟩
theorem k_Z {s : State} {args : Array Value} {A : Nat → Prop} (h8 : ∀ w ∈ q_TB, w.before args s = true) (hts : ∀ w ∈ lw_tbl, w.before args s = true) (hA : ∀ a : Nat, a < s.heap.size → ¬ A a) (hs : ∀ w ∈ flatC (Jvm.Cond.and given_1 narrow_1), w.before args s = true) : q_Z A s s.heap := by
  have hel : ∀ j : Nat, j < 10 → (Term.elem (.static RX2 "LETTERS" "[C") (.int (Int32.ofNat j))).eval args s none [] s = some (.int (Int32.ofInt (q_let j))) := by
    intro j hj
    match j, hj with
    | 0, _ => exact (va_eqt (hs (.eq (.elem (.static RX2 "LETTERS" "[C") (.int 0)) (.int 106)) (by decide +kernel))).trans (congrArg (fun z => some (Value.int z)) (show (106 : Int32) = Int32.ofInt (q_let 0) by decide +kernel))
    | 1, _ => exact (va_eqt (hs (.eq (.elem (.static RX2 "LETTERS" "[C") (.int 1)) (.int 98)) (by decide +kernel))).trans (congrArg (fun z => some (Value.int z)) (show (98 : Int32) = Int32.ofInt (q_let 1) by decide +kernel))
    | 2, _ => exact (va_eqt (hs (.eq (.elem (.static RX2 "LETTERS" "[C") (.int 2)) (.int 116)) (by decide +kernel))).trans (congrArg (fun z => some (Value.int z)) (show (116 : Int32) = Int32.ofInt (q_let 2) by decide +kernel))
    | 3, _ => exact (va_eqt (hs (.eq (.elem (.static RX2 "LETTERS" "[C") (.int 3)) (.int 108)) (by decide +kernel))).trans (congrArg (fun z => some (Value.int z)) (show (108 : Int32) = Int32.ofInt (q_let 3) by decide +kernel))
    | 4, _ => exact (va_eqt (hs (.eq (.elem (.static RX2 "LETTERS" "[C") (.int 4)) (.int 104)) (by decide +kernel))).trans (congrArg (fun z => some (Value.int z)) (show (104 : Int32) = Int32.ofInt (q_let 4) by decide +kernel))
    | 5, _ => exact (va_eqt (hs (.eq (.elem (.static RX2 "LETTERS" "[C") (.int 5)) (.int 99)) (by decide +kernel))).trans (congrArg (fun z => some (Value.int z)) (show (99 : Int32) = Int32.ofInt (q_let 5) by decide +kernel))
    | 6, _ => exact (va_eqt (hs (.eq (.elem (.static RX2 "LETTERS" "[C") (.int 6)) (.int 111)) (by decide +kernel))).trans (congrArg (fun z => some (Value.int z)) (show (111 : Int32) = Int32.ofInt (q_let 6) by decide +kernel))
    | 7, _ => exact (va_eqt (hs (.eq (.elem (.static RX2 "LETTERS" "[C") (.int 7)) (.int 103)) (by decide +kernel))).trans (congrArg (fun z => some (Value.int z)) (show (103 : Int32) = Int32.ofInt (q_let 7) by decide +kernel))
    | 8, _ => exact (va_eqt (hs (.eq (.elem (.static RX2 "LETTERS" "[C") (.int 8)) (.int 119)) (by decide +kernel))).trans (congrArg (fun z => some (Value.int z)) (show (119 : Int32) = Int32.ofInt (q_let 8) by decide +kernel))
    | 9, _ => exact (va_eqt (hs (.eq (.elem (.static RX2 "LETTERS" "[C") (.int 9)) (.int 100)) (by decide +kernel))).trans (congrArg (fun z => some (Value.int z)) (show (100 : Int32) = Int32.ofInt (q_let 9) by decide +kernel))
    | n + 10, hj => exact absurd hj (by omega)
  obtain ⟨t, ht, cell, g1, g2, g3, g4, g5, g6, g7⟩ := va_Tof (A := A) (tm := .static RX2 "LETTERS" "[C") (ty := .char) (N := 10) (f := fun j => .int (Int32.ofInt (q_let j))) (by decide) (hs _ (by decide +kernel)) (va_eqt (hs (.eq (.length (.static RX2 "LETTERS" "[C")) (.int 10)) (by decide +kernel))) hel hA
  exact ⟨t, cell, va_Zref (hts _ (t_3 (List.mem_of_getElem? (i := 76) rfl))) (h8 _ tw9) ht hA, g7, g1, g2, g3, ⟨g4, g5.trans (by decide +kernel)⟩, g6⟩
theorem whole_start {p : Program} {e : Env} {s : State} {m : MethodId} {below : List Frame} {meth : Method} {c : Code} (l : Launch) (htr : l.stackTraces = false) (hnm : meth.name = x.name) {b L : Nat} {xs : Nat → Int32} (hL : L ≤ 2560) (C0 : lw_At p s m meth c b L xs) : W p l e room_1 s m #[Value.ref b] below meth c s.heap [] 0 0 (lw_Z below #[Value.ref b] s) (entryFrame m ([Value.ref b] : List Value).toArray 7) := by
  obtain ⟨hx, hb, hr, hml, hown, hts, hX0, hbl, hlk, hgv⟩ := C0
  have h8 : ∀ w ∈ q_TB, w.before #[Value.ref b] s = true := fun w hw => hts w (List.mem_filter.mp hw).1
  have hs := flat_of_before _ hgv
  have hA0 : ∀ a : Nat, a < s.heap.size → ¬ (fun q => s.heap.size ≤ q) a := fun a h z => absurd h (Nat.not_lt.mpr z)
  obtain ⟨D, cid, hK⟩ := k_know h8 (hts _ (t_1 (List.mem_of_getElem? (i := 190) rfl)))
  have hc11 : s.vm.findClass RX11 = some (D.1 11) := (hK.1 11 _ rfl).2.1
  have hY := k_Y hc11 hts hA0 (hs _ (by decide +kernel)) (hs _ (by decide +kernel))
  have hl2 := lv_entry [Value.ref b] (n := 7) (Nat.le_of_ble_eq_true rfl)
  rw [lg_entry_eq]
  refine lw_begin (SC := (b, L, xs)) hL p l e s m _ below meth c s.heap [] 0 0 601024 7293034 D cid (fun _ => 0) (fun _ => 0) 0 (fun q => s.heap.size ≤ q) _ ⟨hx, hb, hml, hr, hlk, hnm, hown, h8⟩ ⟨hK, ?_, ?_, va_S.rf, ?_, k_X hts, k_Z h8 hts hA0 hs⟩ (fun q h => h) (fun k h => absurd h (Nat.not_lt_zero k)) (Nat.zero_le _) ⟨q_lv_mono hl2 (fun q hq => ?_), fun v hv => ?_⟩ (fun v hv => by cases hv) (by decide) (by decide) ⟨⟨rfl, rfl, htr, hY, fun q h => h⟩, hA0 b hbl, hX0⟩
  · intro k q hq
    exact absurd hq (by simp [q_ws])
  · exact ⟨fun i j p q h => absurd h (by simp [q_ws]), fun k q h => absurd h (by simp [q_ws])⟩
  · have h64 : q_in64 0 := ⟨by decide, by decide⟩
    exact ⟨fun _ _ => h64, fun _ _ _ => q_in0, fun _ _ => (by decide : (-1 : Int) < ((0 : Nat) : Int))⟩
  · rcases List.mem_cons.mp hq with hq | hq
    · rw [hq]; first | exact List.mem_cons_self | simp [lv_args]
    · obtain ⟨i, w⟩ := q
      obtain ⟨v, g1, g2, rfl⟩ := q_lv_mem.mp hq
      have h9 := List.mem_of_getElem? g1
      simp only [List.mem_cons, List.not_mem_nil, or_false, or_self] at h9
      rw [h9] at g2
      exact absurd g2 (by decide)
  · simp only [List.mem_cons, List.not_mem_nil, or_false, or_self] at hv
    rw [hv]; trivial
