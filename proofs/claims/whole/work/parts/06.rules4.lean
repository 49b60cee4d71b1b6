def q_z (f : qm) (n : Nat) (v : Int) : qm := fun c i => if c = n then v else f c i
theorem q_z_self {f : qm} {n : Nat} {v : Int} {j : Int} : q_z f n v n j = v := by unfold q_z; rw [if_pos rfl]
theorem q_z_ne {f : qm} {n k : Nat} {v : Int} {j : Int} (h : k ≠ n) : q_z f n v k j = f k j := by unfold q_z; rw [if_neg (by omega)]
theorem q_fv_ext {ad ad' : Nat → Nat} {n : Nat} (he : ∀ k, k < n → ad' k = ad k) {x : Int} (hx : x < n) : q_fv ad' x = q_fv ad x := by
  unfold q_fv
  by_cases h : x < 0
  · rw [if_pos h, if_pos h]
  · rw [if_neg h, if_neg h, he _ (by omega)]
theorem q_cell_ext {cid : Nat → ClassId} {ad ad' : Nat → Nat} {rf mem rf' mem' : qm} {n k : Nat} {e : Nat × Nat} (he : ∀ k, k < n → ad' k = ad k) (h1 : ∀ j : Nat, rf' k j = rf k j) (h2 : ∀ j : Nat, mem' k j = mem k j) (h3 : ∀ j : Nat, rf k j < n) : q_cell cid ad' rf' mem' k e = q_cell cid ad rf mem k e := by
  unfold q_cell q_fs
  simp only [h1, h2]
  split
  · rfl
  · rfl
  · rfl
  · rfl
  · congr 7
    funext j
    by_cases h : rf k j < 0
    · rw [if_pos h, if_pos h]
    · rw [if_neg h, if_neg h, he _ (by have := h3 j; omega)]
  · congr 2
    refine List.map_congr_left (fun j _ => ?_)
    rw [q_fv_ext he (h3 j)]
theorem q_ws_push {cid : Nat → ClassId} {ad : Nat → Nat} {sh : List (Nat × Nat)} {rf mem : qm} {e : Nat × Nat} {q : Nat} {r m : Int} (hr : ∀ k j : Nat, rf k j < sh.length) :
    q_ws cid (va_up ad sh.length q) (sh ++ [e], q_z rf sh.length r, q_z mem sh.length m) = q_ws cid ad (sh, rf, mem) ++ [(q, q_cell cid (va_up ad sh.length q) (q_z rf sh.length r) (q_z mem sh.length m) sh.length e)] := by
  apply List.ext_getElem?
  intro i
  by_cases hi : i < sh.length
  · rw [List.getElem?_append_left (by rw [q_ws_len]; exact hi), q_ws_at (e := sh[i]) (List.getElem?_eq_getElem hi), q_ws_at (e := sh[i]) (by rw [List.getElem?_append_left hi]; exact List.getElem?_eq_getElem hi)]
    rw [q_cell_ext (n := sh.length) (ad := ad) (rf := rf) (mem := mem) (fun k hk => by unfold va_up; rw [if_neg (by omega)]) (fun j => q_z_ne (by omega)) (fun j => q_z_ne (by omega)) (hr i)]
    unfold va_up
    rw [if_neg (by omega)]
  · rw [List.getElem?_append_right (by rw [q_ws_len]; show sh.length ≤ i; omega), q_ws_len]
    by_cases hi2 : i = sh.length
    · subst hi2
      rw [q_ws_at (e := e) (by rw [List.getElem?_append_right (Nat.le_refl _), Nat.sub_self]; rfl), Nat.sub_self]
      unfold va_up
      rw [if_pos rfl]
      rfl
    · rw [List.getElem?_eq_none (by rw [q_ws_len]; show (sh ++ [e]).length ≤ i; rw [List.length_append, List.length_singleton]; omega), List.getElem?_eq_none (by rw [List.length_singleton]; show 1 ≤ i - sh.length; omega)]
theorem q_rg.push {sh : List (Nat × Nat)} {rf mem : qm} {e : Nat × Nat} (h : q_rg (sh, rf, mem)) : q_rg (sh ++ [e], q_z rf sh.length (-1), q_z mem sh.length 0) := by
  refine ⟨fun k j => ?_, fun k j hk => ?_, fun k j => ?_⟩
  · show q_in64 (q_z mem sh.length 0 k j)
    by_cases hkn : k = sh.length
    · subst hkn; rw [q_z_self]; exact ⟨by decide, by decide⟩
    · rw [q_z_ne hkn]; exact h.1 k j
  · show q_in32 (q_z mem sh.length 0 k j)
    by_cases hkn : k = sh.length
    · subst hkn; rw [q_z_self]; exact q_in0
    · rw [q_z_ne hkn]
      refine h.2.1 k j ?_
      have hk' : ((sh ++ [e]).getD k (0, 0)).1 ≠ 1 := hk
      show (sh.getD k (0, 0)).1 ≠ 1
      by_cases hl : k < sh.length
      · rwa [List.getD_eq_getElem?_getD, List.getElem?_append_left hl, ← List.getD_eq_getElem?_getD] at hk'
      · rw [List.getD_eq_getElem?_getD, List.getElem?_eq_none (by omega)]
        decide
  · show q_z rf sh.length (-1) k j < ((sh ++ [e]).length : Nat)
    rw [List.length_append, List.length_singleton]
    by_cases hkn : k = sh.length
    · subst hkn; rw [q_z_self]; omega
    · rw [q_z_ne hkn]; have := h.2.2 k j; simp only at this; omega
theorem q_dX0 : ∀ j, j < 3 → defaultValue (tyX0 j) = if q_ft 0 j = 0 then .int 0 else .null := by decide +kernel
theorem q_dX1 : ∀ j, j < 9 → defaultValue (tyX1 j) = if q_ft 1 j = 0 then .int 0 else .null := by decide +kernel
theorem q_dX2 : ∀ j, j < 6 → defaultValue (tyX2 j) = if q_ft 2 j = 0 then .int 0 else .null := by decide +kernel
theorem q_dX3 : ∀ j, j < 3 → defaultValue (tyX3 j) = if q_ft 3 j = 0 then .int 0 else .null := by decide +kernel
theorem q_dX4 : ∀ j, j < 6 → defaultValue (tyX4 j) = if q_ft 4 j = 0 then .int 0 else .null := by decide +kernel
theorem q_dX5 : ∀ j, j < 4 → defaultValue (tyX5 j) = if q_ft 5 j = 0 then .int 0 else .null := by decide +kernel
theorem q_dX6 : ∀ j, j < 5 → defaultValue (tyX6 j) = if q_ft 6 j = 0 then .int 0 else .null := by decide +kernel
theorem q_dX7 : ∀ j, j < 10 → defaultValue (tyX7 j) = if q_ft 7 j = 0 then .int 0 else .null := by decide +kernel
theorem q_dX8 : ∀ j, j < 5 → defaultValue (tyX8 j) = if q_ft 8 j = 0 then .int 0 else .null := by decide +kernel
theorem q_dX9 : ∀ j, j < 4 → defaultValue (tyX9 j) = if q_ft 9 j = 0 then .int 0 else .null := by decide +kernel
theorem q_dX10 : ∀ j, j < 5 → defaultValue (tyX10 j) = if q_ft 10 j = 0 then .int 0 else .null := by decide +kernel
theorem q_dX11 : ∀ j, j < 17 → defaultValue (tyX11 j) = if q_ft 11 j = 0 then .int 0 else .null := by decide +kernel
theorem q_dX12 : ∀ j, j < 55 → defaultValue (tyX12 j) = if q_ft 12 j = 0 then .int 0 else .null := by decide +kernel
theorem q_dfl : ∀ (ci : Nat) (C : String) (T : u_T) (N : Nat), q_cl[ci]? = some (C, T, N) → ∃ ty : Nat → FieldType, (∀ k, k < N → parseFieldDescriptor (T k).2.2.1 = some (ty k)) ∧ ∀ j, j < N → defaultValue (ty j) = if q_ft ci j = 0 then .int 0 else .null
  | 0, _, _, _, h => by cases h; exact ⟨tyX0, tyX0_ok, q_dX0⟩
  | 1, _, _, _, h => by cases h; exact ⟨tyX1, tyX1_ok, q_dX1⟩
  | 2, _, _, _, h => by cases h; exact ⟨tyX2, tyX2_ok, q_dX2⟩
  | 3, _, _, _, h => by cases h; exact ⟨tyX3, tyX3_ok, q_dX3⟩
  | 4, _, _, _, h => by cases h; exact ⟨tyX4, tyX4_ok, q_dX4⟩
  | 5, _, _, _, h => by cases h; exact ⟨tyX5, tyX5_ok, q_dX5⟩
  | 6, _, _, _, h => by cases h; exact ⟨tyX6, tyX6_ok, q_dX6⟩
  | 7, _, _, _, h => by cases h; exact ⟨tyX7, tyX7_ok, q_dX7⟩
  | 8, _, _, _, h => by cases h; exact ⟨tyX8, tyX8_ok, q_dX8⟩
  | 9, _, _, _, h => by cases h; exact ⟨tyX9, tyX9_ok, q_dX9⟩
  | 10, _, _, _, h => by cases h; exact ⟨tyX10, tyX10_ok, q_dX10⟩
  | 11, _, _, _, h => by cases h; exact ⟨tyX11, tyX11_ok, q_dX11⟩
  | 12, _, _, _, h => by cases h; exact ⟨tyX12, tyX12_ok, q_dX12⟩
  | k + 13, _, _, _, h => by simp at h
section QN
variable {y : MethodName} {cc : ByteArray} {nL : Nat} {rt : Option FieldType} {d kc ks : Nat} {K : Int → qh → Prop} {pc : Nat} {L st : List qv} {sh : List (Nat × Nat)} {rf mem : qm}
theorem q_new {index ci N : Nat} {C : String} {T : u_T} (hd : decode cc pc = .ok (.new index, 3)) (hcl : q_cl[ci]? = some (C, T, N)) (hw1 : Cond.classLink y.cls index C ∈ q_TB) (hw2 : Cond.instantiable C N ∈ q_TB) (hw3 : Cond.initialized C ∈ q_TB)
    (kk : q_At y cc nL rt d kc ks K (pc + 3) L ((2, (sh.length : Int)) :: st) (sh ++ [(ci + 5, N)], q_z rf sh.length (-1), q_z mem sh.length 0)) : q_At y cc nL rt d (kc + 1) (ks + N) K pc L st (sh, rf, mem) := by
  intro p l e s m args below meth c0 H locs cells slots mc ms D cid ad0 ad n0 A ls C R hA hx hn hL hst hcz hsz
  obtain ⟨h1, h2, h3, h4, h5, h6, h7, h8⟩ := id C
  obtain ⟨hK, hP, hD, hS, hg, hX, hZ⟩ := id R
  obtain ⟨ty, t1, t2⟩ := q_dfl ci _ _ _ hcl
  refine va_new (fs := q_fs ad (q_z rf sh.length (-1)) (q_z mem sh.length 0) ci sh.length N) h1 h2 h8 (q_clo ci _ _ _ hcl).1 ty t1 h7 (h8 _ hw1) (h8 _ hw2) (h8 _ hw3) hK hP hD hS hA hcl (fun j hj => ?_) (by show cells + 1 ≤ mc; omega) (by show slots + N ≤ ms; omega) hd (fun q H1 hP1 hD1 hS1 => ?_)
  · rw [t2 j hj, vp_V, List.getD_eq_getElem?_getD, q_fs_at hj, q_z_self, q_z_self]
    rfl
  have hup : ∀ k, k < sh.length → va_up ad sh.length q k = ad k := fun k hk => by unfold va_up; rw [if_neg (by omega)]
  have hE : q_ws cid (va_up ad sh.length q) (sh ++ [(ci + 5, N)], q_z rf sh.length (-1), q_z mem sh.length 0) = q_ws cid ad (sh, rf, mem) ++ [(q, Sum.inr (ci, q_fs ad (q_z rf sh.length (-1)) (q_z mem sh.length 0) ci sh.length N))] := by
    rw [q_ws_push hg.2.2]
    congr 3
    show Sum.inr (ci, q_fs (va_up ad sh.length q) (q_z rf sh.length (-1)) (q_z mem sh.length 0) ci sh.length N) = _
    congr 2
    refine List.map_congr_left (fun j _ => ?_)
    rw [q_z_self, q_z_self]
    rfl
  have hmap : List.map (qe ad) st = List.map (qe (va_up ad sh.length q)) st := (q_map_ext hup hst).symm
  have hq : Value.ref q = qe (va_up ad sh.length q) (2, (sh.length : Int)) := by
    show Value.ref q = Value.ref (va_up ad sh.length q ((sh.length : Int)).toNat)
    rw [Int.toNat_natCast]; unfold va_up; rw [if_pos rfl]
  rw [hmap, hq]
  refine kk p l e s m args below meth c0 H1 locs (cells + 1) (slots + N) mc ms D cid ad0 (va_up ad sh.length q) n0 A ls C ⟨hK, by rw [hE]; exact hP1, by rw [hE]; exact hD1, hS1, hg.push, hX, hZ⟩ hA (fun k hk => (hup k (Nat.lt_of_lt_of_le hk hn)).trans (hx k hk)) ?_ (hL.ext hup ?_) ?_ (by omega) (by omega)
  · show n0 ≤ (sh ++ [_]).length
    rw [List.length_append]; have : n0 ≤ sh.length := hn; omega
  · show sh.length ≤ (sh ++ [_]).length
    rw [List.length_append]; omega
  · refine List.forall_mem_cons.mpr ⟨?_, fun v hv => (hst v hv).mono ?_⟩
    · show (0 : Int) ≤ (sh.length : Int) ∧ (sh.length : Int) < ((sh ++ [_]).length : Nat)
      rw [List.length_append, List.length_singleton]; omega
    · show sh.length ≤ (sh ++ [_]).length
      rw [List.length_append]; omega
theorem q_newI {x : Int} {N : Nat} (hd : decode cc pc = .ok (.newarray .int, 2)) (hw : Cond.arrayClass .int ∈ q_TB) (hxN : x = (N : Int)) (hb : N ≤ 60000000)
    (kk : q_At y cc nL rt d kc ks K (pc + 2) L ((2, (sh.length : Int)) :: st) (sh ++ [(0, N)], q_z rf sh.length (-1), q_z mem sh.length 0)) : q_At y cc nL rt d (kc + 1) (ks + N) K pc L ((0, x) :: st) (sh, rf, mem) := by
  subst hxN
  intro p l e s m args below meth c0 H locs cells slots mc ms D cid ad0 ad n0 A ls C R hA hx hn hL hst hcz hsz
  obtain ⟨h1, h2, h3, h4, h5, h6, h7, h8⟩ := id C
  obtain ⟨hK, hP, hD, hS, hg, hX, hZ⟩ := id R
  obtain ⟨hx0, hst⟩ := List.forall_mem_cons.mp hst
  have hi : q_in32 (N : Int) := hx0
  refine va_newa (atype := .int) (a0 := (N, .inl (fun _ => 0))) (ty := .int) h1 h2 (h8 _ hw) rfl hK hP hD hS hA (fun cA => rfl) (by rw [← q_zero, q_lt32 hi q_in0]; omega) ((q_clamp hi).trans (Int.toNat_natCast N)) (by show N * 4 ≤ 536870912; omega) (by show cells + 1 ≤ mc; omega) (by show slots + N ≤ ms; omega) hd (fun q cA H1 hK1 hP1 hD1 hS1 => ?_)
  have hcA : cA = cid 0 := by
    have g1 : s.vm.findClass ("[" ++ (.int : FieldType).toString) = some cA := (hK1.2 5 (cA, .int) rfl).2
    have g2 : s.vm.findClass ("[" ++ (.int : FieldType).toString) = some (cid 0) := (hK.2 0 (cid 0, .int) rfl).2
    exact Option.some.inj (g1.symm.trans g2)
  subst hcA
  have hup : ∀ k, k < sh.length → va_up ad sh.length q k = ad k := fun k hk => by unfold va_up; rw [if_neg (by omega)]
  have hE : q_ws cid (va_up ad sh.length q) (sh ++ [(0, N)], q_z rf sh.length (-1), q_z mem sh.length 0) = q_ws cid ad (sh, rf, mem) ++ [(q, Sum.inl (cid 0, N, .inl (fun _ => 0)))] := by
    rw [q_ws_push hg.2.2]
    congr 3
    simp only [q_cell, q_z_self]
    rfl
  have hmap : List.map (qe ad) st = List.map (qe (va_up ad sh.length q)) st := (q_map_ext hup hst).symm
  have hq : Value.ref q = qe (va_up ad sh.length q) (2, (sh.length : Int)) := by
    show Value.ref q = Value.ref (va_up ad sh.length q ((sh.length : Int)).toNat)
    rw [Int.toNat_natCast]; unfold va_up; rw [if_pos rfl]
  rw [hmap, hq]
  refine kk p l e s m args below meth c0 H1 locs (cells + 1) (slots + N) mc ms D cid ad0 (va_up ad sh.length q) n0 A ls C ⟨hK, by rw [hE]; exact hP1, by rw [hE]; exact hD1, hS1, hg.push, hX, hZ⟩ hA (fun k hk => (hup k (Nat.lt_of_lt_of_le hk hn)).trans (hx k hk)) ?_ (hL.ext hup ?_) ?_ (by omega) (by omega)
  · show n0 ≤ (sh ++ [_]).length
    rw [List.length_append]; have : n0 ≤ sh.length := hn; omega
  · show sh.length ≤ (sh ++ [_]).length
    rw [List.length_append]; omega
  · refine List.forall_mem_cons.mpr ⟨?_, fun v hv => (hst v hv).mono ?_⟩
    · show (0 : Int) ≤ (sh.length : Int) ∧ (sh.length : Int) < ((sh ++ [_]).length : Nat)
      rw [List.length_append, List.length_singleton]; omega
    · show sh.length ≤ (sh ++ [_]).length
      rw [List.length_append]; omega
theorem q_newJ {x : Int} {N : Nat} (hd : decode cc pc = .ok (.newarray .long, 2)) (hw : Cond.arrayClass .long ∈ q_TB) (hxN : x = (N : Int)) (hb : N ≤ 60000000)
    (kk : q_At y cc nL rt d kc ks K (pc + 2) L ((2, (sh.length : Int)) :: st) (sh ++ [(1, N)], q_z rf sh.length (-1), q_z mem sh.length 0)) : q_At y cc nL rt d (kc + 1) (ks + N) K pc L ((0, x) :: st) (sh, rf, mem) := by
  subst hxN
  intro p l e s m args below meth c0 H locs cells slots mc ms D cid ad0 ad n0 A ls C R hA hx hn hL hst hcz hsz
  obtain ⟨h1, h2, h3, h4, h5, h6, h7, h8⟩ := id C
  obtain ⟨hK, hP, hD, hS, hg, hX, hZ⟩ := id R
  obtain ⟨hx0, hst⟩ := List.forall_mem_cons.mp hst
  have hi : q_in32 (N : Int) := hx0
  refine va_newa (atype := .long) (a0 := (N, .inr (.inl (fun _ => 0)))) (ty := .long) h1 h2 (h8 _ hw) rfl hK hP hD hS hA (fun cA => rfl) (by rw [← q_zero, q_lt32 hi q_in0]; omega) ((q_clamp hi).trans (Int.toNat_natCast N)) (by show N * 8 ≤ 536870912; omega) (by show cells + 1 ≤ mc; omega) (by show slots + N ≤ ms; omega) hd (fun q cA H1 hK1 hP1 hD1 hS1 => ?_)
  have hcA : cA = cid 1 := by
    have g1 : s.vm.findClass ("[" ++ (.long : FieldType).toString) = some cA := (hK1.2 5 (cA, .long) rfl).2
    have g2 : s.vm.findClass ("[" ++ (.long : FieldType).toString) = some (cid 1) := (hK.2 1 (cid 1, .long) rfl).2
    exact Option.some.inj (g1.symm.trans g2)
  subst hcA
  have hup : ∀ k, k < sh.length → va_up ad sh.length q k = ad k := fun k hk => by unfold va_up; rw [if_neg (by omega)]
  have hE : q_ws cid (va_up ad sh.length q) (sh ++ [(1, N)], q_z rf sh.length (-1), q_z mem sh.length 0) = q_ws cid ad (sh, rf, mem) ++ [(q, Sum.inl (cid 1, N, .inr (.inl (fun _ => 0))))] := by
    rw [q_ws_push hg.2.2]
    congr 3
    simp only [q_cell, q_z_self]
    rfl
  have hmap : List.map (qe ad) st = List.map (qe (va_up ad sh.length q)) st := (q_map_ext hup hst).symm
  have hq : Value.ref q = qe (va_up ad sh.length q) (2, (sh.length : Int)) := by
    show Value.ref q = Value.ref (va_up ad sh.length q ((sh.length : Int)).toNat)
    rw [Int.toNat_natCast]; unfold va_up; rw [if_pos rfl]
  rw [hmap, hq]
  refine kk p l e s m args below meth c0 H1 locs (cells + 1) (slots + N) mc ms D cid ad0 (va_up ad sh.length q) n0 A ls C ⟨hK, by rw [hE]; exact hP1, by rw [hE]; exact hD1, hS1, hg.push, hX, hZ⟩ hA (fun k hk => (hup k (Nat.lt_of_lt_of_le hk hn)).trans (hx k hk)) ?_ (hL.ext hup ?_) ?_ (by omega) (by omega)
  · show n0 ≤ (sh ++ [_]).length
    rw [List.length_append]; have : n0 ≤ sh.length := hn; omega
  · show sh.length ≤ (sh ++ [_]).length
    rw [List.length_append]; omega
  · refine List.forall_mem_cons.mpr ⟨?_, fun v hv => (hst v hv).mono ?_⟩
    · show (0 : Int) ≤ (sh.length : Int) ∧ (sh.length : Int) < ((sh ++ [_]).length : Nat)
      rw [List.length_append, List.length_singleton]; omega
    · show sh.length ≤ (sh ++ [_]).length
      rw [List.length_append]; omega
theorem q_newB {x : Int} {N : Nat} (hd : decode cc pc = .ok (.newarray .byte, 2)) (hw : Cond.arrayClass .byte ∈ q_TB) (hxN : x = (N : Int)) (hb : N ≤ 60000000)
    (kk : q_At y cc nL rt d kc ks K (pc + 2) L ((2, (sh.length : Int)) :: st) (sh ++ [(2, N)], q_z rf sh.length (-1), q_z mem sh.length 0)) : q_At y cc nL rt d (kc + 1) (ks + N) K pc L ((0, x) :: st) (sh, rf, mem) := by
  subst hxN
  intro p l e s m args below meth c0 H locs cells slots mc ms D cid ad0 ad n0 A ls C R hA hx hn hL hst hcz hsz
  obtain ⟨h1, h2, h3, h4, h5, h6, h7, h8⟩ := id C
  obtain ⟨hK, hP, hD, hS, hg, hX, hZ⟩ := id R
  obtain ⟨hx0, hst⟩ := List.forall_mem_cons.mp hst
  have hi : q_in32 (N : Int) := hx0
  refine va_newa (atype := .byte) (a0 := (N, .inl (fun _ => 0))) (ty := .byte) h1 h2 (h8 _ hw) rfl hK hP hD hS hA (fun cA => rfl) (by rw [← q_zero, q_lt32 hi q_in0]; omega) ((q_clamp hi).trans (Int.toNat_natCast N)) (by show N * 1 ≤ 536870912; omega) (by show cells + 1 ≤ mc; omega) (by show slots + N ≤ ms; omega) hd (fun q cA H1 hK1 hP1 hD1 hS1 => ?_)
  have hcA : cA = cid 2 := by
    have g1 : s.vm.findClass ("[" ++ (.byte : FieldType).toString) = some cA := (hK1.2 5 (cA, .byte) rfl).2
    have g2 : s.vm.findClass ("[" ++ (.byte : FieldType).toString) = some (cid 2) := (hK.2 2 (cid 2, .byte) rfl).2
    exact Option.some.inj (g1.symm.trans g2)
  subst hcA
  have hup : ∀ k, k < sh.length → va_up ad sh.length q k = ad k := fun k hk => by unfold va_up; rw [if_neg (by omega)]
  have hE : q_ws cid (va_up ad sh.length q) (sh ++ [(2, N)], q_z rf sh.length (-1), q_z mem sh.length 0) = q_ws cid ad (sh, rf, mem) ++ [(q, Sum.inl (cid 2, N, .inl (fun _ => 0)))] := by
    rw [q_ws_push hg.2.2]
    congr 3
    simp only [q_cell, q_z_self]
    rfl
  have hmap : List.map (qe ad) st = List.map (qe (va_up ad sh.length q)) st := (q_map_ext hup hst).symm
  have hq : Value.ref q = qe (va_up ad sh.length q) (2, (sh.length : Int)) := by
    show Value.ref q = Value.ref (va_up ad sh.length q ((sh.length : Int)).toNat)
    rw [Int.toNat_natCast]; unfold va_up; rw [if_pos rfl]
  rw [hmap, hq]
  refine kk p l e s m args below meth c0 H1 locs (cells + 1) (slots + N) mc ms D cid ad0 (va_up ad sh.length q) n0 A ls C ⟨hK, by rw [hE]; exact hP1, by rw [hE]; exact hD1, hS1, hg.push, hX, hZ⟩ hA (fun k hk => (hup k (Nat.lt_of_lt_of_le hk hn)).trans (hx k hk)) ?_ (hL.ext hup ?_) ?_ (by omega) (by omega)
  · show n0 ≤ (sh ++ [_]).length
    rw [List.length_append]; have : n0 ≤ sh.length := hn; omega
  · show sh.length ≤ (sh ++ [_]).length
    rw [List.length_append]; omega
  · refine List.forall_mem_cons.mpr ⟨?_, fun v hv => (hst v hv).mono ?_⟩
    · show (0 : Int) ≤ (sh.length : Int) ∧ (sh.length : Int) < ((sh ++ [_]).length : Nat)
      rw [List.length_append, List.length_singleton]; omega
    · show sh.length ≤ (sh ++ [_]).length
      rw [List.length_append]; omega
theorem q_newZ {x : Int} {N : Nat} (hd : decode cc pc = .ok (.newarray .boolean, 2)) (hw : Cond.arrayClass .boolean ∈ q_TB) (hxN : x = (N : Int)) (hb : N ≤ 60000000)
    (kk : q_At y cc nL rt d kc ks K (pc + 2) L ((2, (sh.length : Int)) :: st) (sh ++ [(3, N)], q_z rf sh.length (-1), q_z mem sh.length 0)) : q_At y cc nL rt d (kc + 1) (ks + N) K pc L ((0, x) :: st) (sh, rf, mem) := by
  subst hxN
  intro p l e s m args below meth c0 H locs cells slots mc ms D cid ad0 ad n0 A ls C R hA hx hn hL hst hcz hsz
  obtain ⟨h1, h2, h3, h4, h5, h6, h7, h8⟩ := id C
  obtain ⟨hK, hP, hD, hS, hg, hX, hZ⟩ := id R
  obtain ⟨hx0, hst⟩ := List.forall_mem_cons.mp hst
  have hi : q_in32 (N : Int) := hx0
  refine va_newa (atype := .boolean) (a0 := (N, .inl (fun _ => 0))) (ty := .boolean) h1 h2 (h8 _ hw) rfl hK hP hD hS hA (fun cA => rfl) (by rw [← q_zero, q_lt32 hi q_in0]; omega) ((q_clamp hi).trans (Int.toNat_natCast N)) (by show N * 1 ≤ 536870912; omega) (by show cells + 1 ≤ mc; omega) (by show slots + N ≤ ms; omega) hd (fun q cA H1 hK1 hP1 hD1 hS1 => ?_)
  have hcA : cA = cid 3 := by
    have g1 : s.vm.findClass ("[" ++ (.boolean : FieldType).toString) = some cA := (hK1.2 5 (cA, .boolean) rfl).2
    have g2 : s.vm.findClass ("[" ++ (.boolean : FieldType).toString) = some (cid 3) := (hK.2 3 (cid 3, .boolean) rfl).2
    exact Option.some.inj (g1.symm.trans g2)
  subst hcA
  have hup : ∀ k, k < sh.length → va_up ad sh.length q k = ad k := fun k hk => by unfold va_up; rw [if_neg (by omega)]
  have hE : q_ws cid (va_up ad sh.length q) (sh ++ [(3, N)], q_z rf sh.length (-1), q_z mem sh.length 0) = q_ws cid ad (sh, rf, mem) ++ [(q, Sum.inl (cid 3, N, .inl (fun _ => 0)))] := by
    rw [q_ws_push hg.2.2]
    congr 3
    simp only [q_cell, q_z_self]
    rfl
  have hmap : List.map (qe ad) st = List.map (qe (va_up ad sh.length q)) st := (q_map_ext hup hst).symm
  have hq : Value.ref q = qe (va_up ad sh.length q) (2, (sh.length : Int)) := by
    show Value.ref q = Value.ref (va_up ad sh.length q ((sh.length : Int)).toNat)
    rw [Int.toNat_natCast]; unfold va_up; rw [if_pos rfl]
  rw [hmap, hq]
  refine kk p l e s m args below meth c0 H1 locs (cells + 1) (slots + N) mc ms D cid ad0 (va_up ad sh.length q) n0 A ls C ⟨hK, by rw [hE]; exact hP1, by rw [hE]; exact hD1, hS1, hg.push, hX, hZ⟩ hA (fun k hk => (hup k (Nat.lt_of_lt_of_le hk hn)).trans (hx k hk)) ?_ (hL.ext hup ?_) ?_ (by omega) (by omega)
  · show n0 ≤ (sh ++ [_]).length
    rw [List.length_append]; have : n0 ≤ sh.length := hn; omega
  · show sh.length ≤ (sh ++ [_]).length
    rw [List.length_append]; omega
  · refine List.forall_mem_cons.mpr ⟨?_, fun v hv => (hst v hv).mono ?_⟩
    · show (0 : Int) ≤ (sh.length : Int) ∧ (sh.length : Int) < ((sh ++ [_]).length : Nat)
      rw [List.length_append, List.length_singleton]; omega
    · show sh.length ≤ (sh ++ [_]).length
      rw [List.length_append]; omega
theorem q_newQ {index : Nat} {x : Int} {N : Nat} (hd : decode cc pc = .ok (.anewarray index, 3)) (hw : Cond.classLink y.cls index RX7 ∈ q_TB) (hxN : x = (N : Int)) (hb : N ≤ 60000000)
    (kk : q_At y cc nL rt d kc ks K (pc + 3) L ((2, (sh.length : Int)) :: st) (sh ++ [(4, N)], q_z rf sh.length (-1), q_z mem sh.length 0)) : q_At y cc nL rt d (kc + 1) (ks + N) K pc L ((0, x) :: st) (sh, rf, mem) := by
  subst hxN
  intro p l e s m args below meth c0 H locs cells slots mc ms D cid ad0 ad n0 A ls C R hA hx hn hL hst hcz hsz
  obtain ⟨h1, h2, h3, h4, h5, h6, h7, h8⟩ := id C
  obtain ⟨hK, hP, hD, hS, hg, hX, hZ⟩ := id R
  obtain ⟨hx0, hst⟩ := List.forall_mem_cons.mp hst
  have hi : q_in32 (N : Int) := hx0
  refine va_newq (C := RX7) h1 h2 h7 (h8 _ hw) hX.1 hK hP hD hS hA (by rw [← q_zero, q_lt32 hi q_in0]; omega) ((q_clamp hi).trans (Int.toNat_natCast N)) (by omega) (by show cells + 1 ≤ mc; omega) (by show slots + N ≤ ms; omega) hd (fun q cA H1 hK1 hP1 hD1 hS1 => ?_)
  have hcA : cA = cid 4 := by
    obtain ⟨_, _, _, _, _, g1⟩ := (hK1.2 5 (cA, .object RX7) rfl).2
    obtain ⟨_, _, _, _, _, g2⟩ := (hK.2 4 (cid 4, .object RX7) rfl).2
    exact Option.some.inj (g1.symm.trans g2)
  subst hcA
  have hup : ∀ k, k < sh.length → va_up ad sh.length q k = ad k := fun k hk => by unfold va_up; rw [if_neg (by omega)]
  have hE : q_ws cid (va_up ad sh.length q) (sh ++ [(4, N)], q_z rf sh.length (-1), q_z mem sh.length 0) = q_ws cid ad (sh, rf, mem) ++ [(q, Sum.inl (cid 4, N, .inr (.inr (.inr (.inr (fun _ => none))))))] := by
    rw [q_ws_push hg.2.2]
    congr 3
    simp only [q_cell, q_z_self]
    rfl
  have hmap : List.map (qe ad) st = List.map (qe (va_up ad sh.length q)) st := (q_map_ext hup hst).symm
  have hq : Value.ref q = qe (va_up ad sh.length q) (2, (sh.length : Int)) := by
    show Value.ref q = Value.ref (va_up ad sh.length q ((sh.length : Int)).toNat)
    rw [Int.toNat_natCast]; unfold va_up; rw [if_pos rfl]
  rw [hmap, hq]
  refine kk p l e s m args below meth c0 H1 locs (cells + 1) (slots + N) mc ms D cid ad0 (va_up ad sh.length q) n0 A ls C ⟨hK, by rw [hE]; exact hP1, by rw [hE]; exact hD1, hS1, hg.push, hX, hZ⟩ hA (fun k hk => (hup k (Nat.lt_of_lt_of_le hk hn)).trans (hx k hk)) ?_ (hL.ext hup ?_) ?_ (by omega) (by omega)
  · show n0 ≤ (sh ++ [_]).length
    rw [List.length_append]; have : n0 ≤ sh.length := hn; omega
  · show sh.length ≤ (sh ++ [_]).length
    rw [List.length_append]; omega
  · refine List.forall_mem_cons.mpr ⟨?_, fun v hv => (hst v hv).mono ?_⟩
    · show (0 : Int) ≤ (sh.length : Int) ∧ (sh.length : Int) < ((sh ++ [_]).length : Nat)
      rw [List.length_append, List.length_singleton]; omega
    · show sh.length ≤ (sh ++ [_]).length
      rw [List.length_append]; omega
theorem q_aast {c i v : Int} {n : Nat} (hd : decode cc pc = .ok (.aastore, 1)) (hs : sh[c.toNat]? = some (4, n)) (hi : 0 ≤ i) (hi2 : i < n) (hsv : sh[v.toNat]? = some (12, 10)) (kk : q_At y cc nL rt d kc ks K (pc + 1) L st (sh, q_up rf c i v, mem)) : q_At y cc nL rt d kc ks K pc L ((2, v) :: (0, i) :: (2, c) :: st) (sh, rf, mem) := by
  intro p l e s m args below meth c0 H locs cells slots mc ms D cid ad0 ad n0 A ls C R hA hx hn hL hst hcz hsz
  obtain ⟨h1, h2, h3, h4, h5, h6, h7, h8⟩ := id C
  obtain ⟨hK, hP, hD, hS, hg, hX, hZ⟩ := id R
  obtain ⟨hv0, hst⟩ := List.forall_mem_cons.mp hst
  obtain ⟨hi0, hst⟩ := List.forall_mem_cons.mp hst
  obtain ⟨hc0, hst⟩ := List.forall_mem_cons.mp hst
  have hc1 : 0 ≤ c := hc0.1
  have hv1 : 0 ≤ v := hv0.1
  refine va_astq (r := (RX7, TX7, 10)) h1 h2 hK hP hD hS c.toNat 4 v.toNat 7 (q_ws_at hs) rfl (q_ws_at hsv) rfl (q_vpin hi0 hi hi2) hd (fun H1 locs1 hP1 hD1 hS1 => ?_)
  have hE : (q_ws cid ad (sh, rf, mem)).set c.toNat (ad c.toNat, Sum.inl (cid 4, n, .inr (.inr (.inr (.inr (va_up (fun j : Nat => if rf (c.toNat : Nat) j < 0 then none else some (ad (rf (c.toNat : Nat) j).toNat)) (Int32.ofInt i).toNatClampNeg (some (ad v.toNat)))))))) = q_ws cid ad (sh, q_up rf c i v, mem) := by
    refine q_ws_set hs ?_ (fun k' hk' j => ⟨q_up_ne hk' hc1 j, rfl⟩)
    show (Sum.inl (cid 4, n, .inr (.inr (.inr (.inr (fun j : Nat => if q_up rf c i v (c.toNat : Nat) j < 0 then none else some (ad (q_up rf c i v (c.toNat : Nat) j).toNat)))))) : va_E) = _
    congr 7
    funext j
    rw [q_clamp hi0]
    by_cases hj : j = i.toNat
    · have e1 : q_up rf c i v (c.toNat : Nat) j = v := by unfold q_up; rw [if_pos (by omega)]
      rw [e1, if_neg (by omega)]
      unfold va_up
      rw [if_pos hj]
    · have e1 : q_up rf c i v (c.toNat : Nat) j = rf (c.toNat : Nat) j := by unfold q_up; rw [if_neg (by omega)]
      rw [e1]
      unfold va_up
      rw [if_neg hj]
  exact kk p l e s m args below meth c0 H1 locs1 cells slots mc ms D cid ad0 ad n0 A ls C ⟨hK, hE ▸ hP1, hE ▸ hD1, hS1, hg.upr hv0.2, hX, hZ⟩ hA hx hn hL hst hcz hsz
theorem q_objInit {index : Nat} {c : Int} (hd : decode cc pc = .ok (.invokespecial index, 3)) (hw1 : Cond.methodLink y.cls index objectInit ∈ q_TB) (hw2 : Cond.instanceMethod objectInit ∈ q_TB) (hw3 : Cond.code objectInit ⟨#[0xb1]⟩ 1 none ∈ q_TB) (hdd : 1 ≤ d) (hsum : (st.map (fun v => if v.1 = 1 then 2 else 1)).sum ≤ 8) (kk : q_At y cc nL rt d kc ks K (pc + 3) L st (sh, rf, mem)) : q_At y cc nL rt d kc ks K pc L ((2, c) :: st) (sh, rf, mem) := by
  intro p l e s m args below meth c0 H locs cells slots mc ms D cid ad0 ad n0 A ls C R hA hx hn hL hst hcz hsz
  obtain ⟨h1, h2, h3, h4, h5, h6, h7, h8⟩ := id C
  obtain ⟨hK, hP, hD, hS, hg, hX, hZ⟩ := id R
  obtain ⟨hc0, hst⟩ := List.forall_mem_cons.mp hst
  exact W.objInit h1 h2 h7 (h8 _ hw1) (h8 _ hw2) (h8 _ hw3) rfl (by rw [h3]; exact hL.1.1) rfl hd hdd (by show 2 * 0 + _ + 12 ≤ 40 * d; rw [q_sumcat]; omega) (kk p l e s m args below meth c0 H locs cells slots mc ms D cid ad0 ad n0 A ls C R hA hx hn hL hst hcz hsz)
theorem q_max {index : Nat} {a b : Int} (hd : decode cc pc = .ok (.invokestatic index, 3)) (hw1 : Cond.methodLink y.cls index Lib.Math.max.name ∈ q_TB) (hw2 : Cond.static Lib.Math.max.name ∈ q_TB) (hw3 : Cond.initialized "java/lang/Math" ∈ q_TB) (hw4 : Cond.code Lib.Math.max.name Lib.Math.max.code 2 (some .int) ∈ q_TB) (hdd : 1 ≤ d) (hsum : (st.map (fun v => if v.1 = 1 then 2 else 1)).sum ≤ 8) (kk : q_At y cc nL rt d kc ks K (pc + 3) L ((0, max a b) :: st) (sh, rf, mem)) : q_At y cc nL rt d kc ks K pc L ((0, b) :: (0, a) :: st) (sh, rf, mem) := by
  intro p l e s m args below meth c0 H locs cells slots mc ms D cid ad0 ad n0 A ls C R hA hx hn hL hst hcz hsz
  obtain ⟨h1, h2, h3, h4, h5, h6, h7, h8⟩ := id C
  obtain ⟨hK, hP, hD, hS, hg, hX, hZ⟩ := id R
  obtain ⟨hb0, hst⟩ := List.forall_mem_cons.mp hst
  obtain ⟨ha0, hst⟩ := List.forall_mem_cons.mp hst
  have ha1 : q_in32 a := ha0
  have hb1 : q_in32 b := hb0
  have hr : q_in32 (max a b) := ⟨by have := ha1.1; have := hb1.1; omega, by have := ha1.2; have := hb1.2; omega⟩
  have z := kk p l e s m args below meth c0 H locs cells slots mc ms D cid ad0 ad n0 A ls C R hA hx hn hL (List.forall_mem_cons.mpr ⟨hr, hst⟩) hcz hsz
  refine va_mmax h1 h2 (h3.trans hL.1.1.symm) h7 (h8 _ hw1) (h8 _ hw2) (h8 _ hw3) (h8 _ hw4) hdd (by show _ + 13 ≤ 40 * d; rw [q_sumcat]; omega) (by show cells ≤ mc; omega) (by show slots ≤ ms; omega) hd ?_
  have e1 : (if Int32.ofInt a < Int32.ofInt b then Int32.ofInt b else Int32.ofInt a) = Int32.ofInt (max a b) := by
    by_cases h : a < b
    · rw [if_pos ((q_lt32 ha0 hb0).mpr h)]; congr 1; omega
    · rw [if_neg (fun q => h ((q_lt32 ha0 hb0).mp q))]; congr 1; omega
  rw [e1]
  exact z
theorem q_min {index : Nat} {a b : Int} (hd : decode cc pc = .ok (.invokestatic index, 3)) (hw1 : Cond.methodLink y.cls index Lib.Math.min.name ∈ q_TB) (hw2 : Cond.static Lib.Math.min.name ∈ q_TB) (hw3 : Cond.initialized "java/lang/Math" ∈ q_TB) (hw4 : Cond.code Lib.Math.min.name Lib.Math.min.code 2 (some .int) ∈ q_TB) (hdd : 1 ≤ d) (hsum : (st.map (fun v => if v.1 = 1 then 2 else 1)).sum ≤ 8) (kk : q_At y cc nL rt d kc ks K (pc + 3) L ((0, min a b) :: st) (sh, rf, mem)) : q_At y cc nL rt d kc ks K pc L ((0, b) :: (0, a) :: st) (sh, rf, mem) := by
  intro p l e s m args below meth c0 H locs cells slots mc ms D cid ad0 ad n0 A ls C R hA hx hn hL hst hcz hsz
  obtain ⟨h1, h2, h3, h4, h5, h6, h7, h8⟩ := id C
  obtain ⟨hK, hP, hD, hS, hg, hX, hZ⟩ := id R
  obtain ⟨hb0, hst⟩ := List.forall_mem_cons.mp hst
  obtain ⟨ha0, hst⟩ := List.forall_mem_cons.mp hst
  have ha1 : q_in32 a := ha0
  have hb1 : q_in32 b := hb0
  have hr : q_in32 (min a b) := ⟨by have := ha1.1; have := hb1.1; omega, by have := ha1.2; have := hb1.2; omega⟩
  have z := kk p l e s m args below meth c0 H locs cells slots mc ms D cid ad0 ad n0 A ls C R hA hx hn hL (List.forall_mem_cons.mpr ⟨hr, hst⟩) hcz hsz
  refine va_mmin h1 h2 (h3.trans hL.1.1.symm) h7 (h8 _ hw1) (h8 _ hw2) (h8 _ hw3) (h8 _ hw4) hdd (by show _ + 13 ≤ 40 * d; rw [q_sumcat]; omega) (by show cells ≤ mc; omega) (by show slots ≤ ms; omega) hd ?_
  have e1 : (if Int32.ofInt b < Int32.ofInt a then Int32.ofInt b else Int32.ofInt a) = Int32.ofInt (min a b) := by
    by_cases h : b < a
    · rw [if_pos ((q_lt32 hb0 ha0).mpr h)]; congr 1; omega
    · rw [if_neg (fun q => h ((q_lt32 hb0 ha0).mp q))]; congr 1; omega
  rw [e1]
  exact z
def q_cp (mem : qm) (c0 sp c1 dp n : Int) : qm := fun c i => if c = c1 ∧ dp ≤ i ∧ i < dp + n then mem c0 (sp + (i - dp)) else mem c i
theorem q_cp_rg {sh : List (Nat × Nat)} {rf mem : qm} (h : q_rg (sh, rf, mem)) {a b sp dp n : Int} {n0 : Nat} {kd : Nat} (hkd : kd ≠ 1) (ha : 0 ≤ a) (hs : sh[a.toNat]? = some (kd, n0)) (hsp : 0 ≤ sp) : q_rg (sh, rf, q_cp mem a sp b dp n) := by
  refine ⟨fun k j => ?_, fun k j hk => ?_, h.2.2⟩
  · show q_in64 (q_cp mem a sp b dp n k j)
    unfold q_cp
    split
    · exact h.l ha (by omega)
    · exact h.1 k j
  · show q_in32 (q_cp mem a sp b dp n k j)
    unfold q_cp
    split
    · exact h.i ha (by omega) hs hkd
    · exact h.2.1 k j hk
theorem q_copy {index : Nat} {a b sp dp n : Int} {N0 N1 : Nat} (hd : decode cc pc = .ok (.invokestatic index, 3)) (hw1 : Cond.methodLink y.cls index arraycopyName ∈ q_TB) (hw2 : Cond.native arraycopyName ∈ q_TB) (hw3 : Cond.static arraycopyName ∈ q_TB) (hw4 : Cond.initialized "java/lang/System" ∈ q_TB) (hdd : 1 ≤ d) (hsum : (st.map (fun v => if v.1 = 1 then 2 else 1)).sum ≤ 8)
    (hs0 : sh[a.toNat]? = some (0, N0)) (hs1 : sh[b.toNat]? = some (0, N1)) (g1 : 0 ≤ sp) (g2 : 0 ≤ dp) (g3 : 0 ≤ n) (g4 : sp + n ≤ N0) (g5 : dp + n ≤ N1) (kk : q_At y cc nL rt d kc ks K (pc + 3) L st (sh, rf, q_cp mem a sp b dp n)) : q_At y cc nL rt d kc ks K pc L ((0, n) :: (0, dp) :: (2, b) :: (0, sp) :: (2, a) :: st) (sh, rf, mem) := by
  intro p l e s m args below meth c0 H locs cells slots mc ms D cid ad0 ad n0 A ls C R hA hx hn hL hst hcz hsz
  obtain ⟨h1, h2, h3, h4, h5, h6, h7, h8⟩ := id C
  obtain ⟨hK, hP, hD, hS, hg, hX, hZ⟩ := id R
  obtain ⟨hn0, hst⟩ := List.forall_mem_cons.mp hst
  obtain ⟨hdp0, hst⟩ := List.forall_mem_cons.mp hst
  obtain ⟨hb0, hst⟩ := List.forall_mem_cons.mp hst
  obtain ⟨hsp0, hst⟩ := List.forall_mem_cons.mp hst
  obtain ⟨ha0, hst⟩ := List.forall_mem_cons.mp hst
  have hb1 : 0 ≤ b := hb0.1
  have ha1 : 0 ≤ a := ha0.1
  have hsp0 : q_in32 sp := hsp0
  have hdp0 : q_in32 dp := hdp0
  have hn0 : q_in32 n := hn0
  have hnf : nativeFrameWords "java/lang/System" "arraycopy" 5 = 7 := by decide +kernel
  have nlt : ∀ {x : Int}, q_in32 x → 0 ≤ x → ¬ Int32.ofInt x < 0 := fun {x} h h' => by rw [← q_zero, q_lt32 h q_in0]; omega
  refine va_copyi (ty := .int) h1 h2 (h3.trans hL.1.1.symm) h7 (h8 _ hw1) (h8 _ hw2) (h8 _ hw3) (h8 _ hw4) hK hP hD hS a.toNat b.toNat 0 0 (q_ws_at hs0) (q_ws_at hs1) rfl rfl rfl (nlt hsp0 g1) (nlt hdp0 g2) (nlt hn0 g3) (by rw [q_clamp hsp0, q_clamp hn0]; show sp.toNat + n.toNat ≤ N0; omega) (by rw [q_clamp hdp0, q_clamp hn0]; show dp.toNat + n.toNat ≤ N1; omega) (fun i hi => rfl) hdd (by show _ + (nativeFrameWords "java/lang/System" "arraycopy" 5 + 11) ≤ 40 * d; rw [q_sumcat, hnf]; omega) hd (fun H1 locs1 hP1 hD1 hS1 => ?_)
  have hE : (q_ws cid ad (sh, rf, mem)).set b.toNat (ad b.toNat, Sum.inl (cid 0, N1, .inl (va_cpy (fun j : Nat => Int32.ofInt (mem (a.toNat : Nat) j)) (fun j : Nat => Int32.ofInt (mem (b.toNat : Nat) j)) (Int32.ofInt sp).toNatClampNeg (Int32.ofInt dp).toNatClampNeg (Int32.ofInt n).toNatClampNeg))) = q_ws cid ad (sh, rf, q_cp mem a sp b dp n) := by
    refine q_ws_set hs1 ?_ (fun k' hk' j => ⟨rfl, ?_⟩)
    · show (Sum.inl (cid 0, N1, .inl (fun j : Nat => Int32.ofInt (q_cp mem a sp b dp n (b.toNat : Nat) j))) : va_E) = _
      congr 4
      funext j
      rw [q_clamp hsp0, q_clamp hdp0, q_clamp hn0]
      unfold q_cp va_cpy
      simp only
      by_cases hj : dp.toNat ≤ j ∧ j < dp.toNat + n.toNat
      · rw [if_pos (by omega), if_pos hj, show (a.toNat : Int) = a by omega, show (((sp.toNat + (j - dp.toNat) : Nat)) : Int) = sp + (j - dp) by omega]
      · rw [if_neg (by omega), if_neg hj]
    · unfold q_cp
      rw [if_neg (by omega)]
  exact kk p l e s m args below meth c0 H1 locs1 cells slots mc ms D cid ad0 ad n0 A ls C ⟨hK, hE ▸ hP1, hE ▸ hD1, hS1, q_cp_rg hg (by decide) ha1 hs0 g1, hX, hZ⟩ hA hx hn hL hst hcz hsz
theorem q_letlen {index : Nat} (hd : decode cc pc = .ok (.getstatic index, 3)) (hw : Cond.fieldLink y.cls index RX2 "LETTERS" "[C" ∈ q_TB) (hd2 : decode cc (pc + 3) = .ok (.arraylength, 1)) (kk : q_At y cc nL rt d kc ks K (pc + 4) L ((0, 10) :: st) (sh, rf, mem)) : q_At y cc nL rt d kc ks K pc L st (sh, rf, mem) := by
  intro p l e s m args below meth c0 H locs cells slots mc ms D cid ad0 ad n0 A ls C R hA hx hn hL hst hcz hsz
  obtain ⟨h1, h2, h3, h4, h5, h6, h7, h8⟩ := id C
  obtain ⟨hK, hP, hD, hS, hg, hX, hZ⟩ := id R
  obtain ⟨lt, scr, z1, z2, z3, z4, z5, z6, z7⟩ := hZ
  have hl : H[lt]? = some scr := by rw [hS.2.1 lt (Array.getElem?_eq_some_iff.mp z3).1 z2]; exact z3
  have z := kk p l e s m args below meth c0 H locs cells slots mc ms D cid ad0 ad n0 A ls C R hA hx hn hL (List.forall_mem_cons.mpr ⟨⟨by decide, by decide⟩, hst⟩) hcz hsz
  refine va_gets h1 h2 z1 hS h7 (h8 _ hw) (fun _ h => h) hd ?_
  exact W.alen (n := Int32.ofInt 10) h1 h2 hl z4 z6.2 rfl rfl hd2 z
theorem q_letld {index i : Nat} {x : Int} {j : Fin 4} (hd : decode cc pc = .ok (.getstatic index, 3)) (hw : Cond.fieldLink y.cls index RX2 "LETTERS" "[C" ∈ q_TB) (hd2 : decode cc (pc + 3) = .ok (.iload_n j, 1)) (hj : (j : Nat) = i) (hl : L[i]? = some (0, x)) (hd3 : decode cc (pc + 4) = .ok (.caload, 1)) (hx0 : 0 ≤ x) (hx1 : x < 10) (kk : q_At y cc nL rt d kc ks K (pc + 5) L ((0, q_let x.toNat) :: st) (sh, rf, mem)) : q_At y cc nL rt d kc ks K pc L st (sh, rf, mem) := by
  intro p l e s m args below meth c0 H locs cells slots mc ms D cid ad0 ad n0 A ls C R hA hx hn hL hst hcz hsz
  obtain ⟨h1, h2, h3, h4, h5, h6, h7, h8⟩ := id C
  obtain ⟨hK, hP, hD, hS, hg, hX, hZ⟩ := id R
  obtain ⟨lt, scr, z1, z2, z3, z4, z5, z6, z7⟩ := hZ
  have hl2 : H[lt]? = some scr := by rw [hS.2.1 lt (Array.getElem?_eq_some_iff.mp z3).1 z2]; exact z3
  have hxi : q_in32 x := hL.ok hl
  have hlr : ∀ j : Nat, j < 10 → q_in32 (q_let j) := by unfold q_in32; decide
  have z := kk p l e s m args below meth c0 H locs cells slots mc ms D cid ad0 ad n0 A ls C R hA hx hn hL (List.forall_mem_cons.mpr ⟨hlr _ (by omega), hst⟩) hcz hsz
  refine va_gets h1 h2 z1 hS h7 (h8 _ hw) (fun _ h => h) hd ?_
  refine lv_iload_n h1 h2 hd2 hj (hL.get hl (Nat.le_of_ble_eq_true rfl)) ?_
  exact W.cald (v := .int (Int32.ofInt (q_let x.toNat))) h1 h2 hl2 z4 z5 (q_vpin hxi hx0 (by have := z6.1; omega)) (by simp only [q_clamp hxi]; exact z7 _ (by omega)) rfl rfl hd3 z
end QN
