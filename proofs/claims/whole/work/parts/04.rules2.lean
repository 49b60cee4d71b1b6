theorem q_kind {sh : List (Nat × Nat)} {k : Nat} {e : Nat × Nat} (h : sh[k]? = some e) : sh.getD k (0, 0) = e := by rw [List.getD_eq_getElem?_getD, h]; rfl
theorem q_rg.i {sh : List (Nat × Nat)} {rf mem : qm} (h : q_rg (sh, rf, mem)) {c i : Int} (hc : 0 ≤ c) (hi : 0 ≤ i) {e : Nat × Nat} (hs : sh[c.toNat]? = some e) (he : e.1 ≠ 1) : q_in32 (mem c i) := by
  have := h.2.1 c.toNat i.toNat (by show (sh.getD c.toNat (0, 0)).1 ≠ 1; rw [q_kind hs]; exact he)
  rwa [show ((c.toNat : Nat) : Int) = c by omega, show ((i.toNat : Nat) : Int) = i by omega] at this
theorem q_rg.l {sh : List (Nat × Nat)} {rf mem : qm} (h : q_rg (sh, rf, mem)) {c i : Int} (hc : 0 ≤ c) (hi : 0 ≤ i) : q_in64 (mem c i) := by
  have := h.1 c.toNat i.toNat
  rwa [show ((c.toNat : Nat) : Int) = c by omega, show ((i.toNat : Nat) : Int) = i by omega] at this
theorem q_rg.r {sh : List (Nat × Nat)} {rf mem : qm} (h : q_rg (sh, rf, mem)) {c i : Int} (hc : 0 ≤ c) (hi : 0 ≤ i) : rf c i < sh.length := by
  have := h.2.2 c.toNat i.toNat
  rwa [show ((c.toNat : Nat) : Int) = c by omega, show ((i.toNat : Nat) : Int) = i by omega] at this
theorem q_rg.up {sh : List (Nat × Nat)} {rf mem : qm} (h : q_rg (sh, rf, mem)) {c i v : Int} (hv : q_in32 v) : q_rg (sh, rf, q_up mem c i v) := by
  have h64 : q_in64 v := ⟨by have := hv.1; omega, by have := hv.2; omega⟩
  refine ⟨fun k j => ?_, fun k j hk => ?_, h.2.2⟩
  · show q_in64 (q_up mem c i v k j)
    unfold q_up
    split
    · exact h64
    · exact h.1 k j
  · show q_in32 (q_up mem c i v k j)
    unfold q_up
    split
    · exact hv
    · exact h.2.1 k j hk
theorem q_rg.upl {sh : List (Nat × Nat)} {rf mem : qm} (h : q_rg (sh, rf, mem)) {c i v : Int} {m : Nat} (hs : sh[c.toNat]? = some (1, m)) (hv : q_in64 v) : q_rg (sh, rf, q_up mem c i v) := by
  refine ⟨fun k j => ?_, fun k j hk => ?_, h.2.2⟩
  · show q_in64 (q_up mem c i v k j)
    unfold q_up
    split
    · exact hv
    · exact h.1 k j
  · show q_in32 (q_up mem c i v k j)
    unfold q_up
    split
    · rename_i hq
      exfalso
      have hk2 : k = c.toNat := by omega
      subst hk2
      exact hk (by show (sh.getD _ (0, 0)).1 = 1; rw [q_kind hs])
    · exact h.2.1 k j hk
theorem q_rg.upr {sh : List (Nat × Nat)} {rf mem : qm} (h : q_rg (sh, rf, mem)) {c i v : Int} (hv : v < sh.length) : q_rg (sh, q_up rf c i v, mem) := by
  refine ⟨h.1, h.2.1, fun k j => ?_⟩
  show q_up rf c i v k j < sh.length
  unfold q_up
  split
  · exact hv
  · exact h.2.2 k j
theorem q_up_ne {f : qm} {c i v : Int} {k : Nat} (hk : k ≠ c.toNat) (hc : 0 ≤ c) (j : Int) : q_up f c i v k j = f k j := by
  unfold q_up
  rw [if_neg]
  intro h
  omega
theorem q_fs_at {ad : Nat → Nat} {rf mem : qm} {ci c k n : Nat} (hk : k < n) : (q_fs ad rf mem ci c n)[k]? = some (if q_ft ci k = 0 then .int (Int32.ofInt (mem c k)) else q_fv ad (rf c k)) := by
  simp only [q_fs, List.getElem?_map, List.getElem?_range hk, Option.map_some]
theorem q_fs_len {ad : Nat → Nat} {rf mem : qm} {ci c n : Nat} : (q_fs ad rf mem ci c n).length = n := by simp [q_fs]
theorem q_fs_set {ad : Nat → Nat} {rf mem : qm} {ci k n : Nat} {c v : Int} (hc : 0 ≤ c) (hk : k < n) (hf : q_ft ci k = 0) : q_fs ad rf (q_up mem c k v) ci c.toNat n = (q_fs ad rf mem ci c.toNat n).set k (.int (Int32.ofInt v)) := by
  apply List.ext_getElem?
  intro i
  by_cases hi : i < n
  · by_cases hik : i = k
    · subst hik
      rw [List.getElem?_set_self (by rw [q_fs_len]; exact hk), q_fs_at hk, if_pos hf]
      simp [q_up, show ((c.toNat : Nat) : Int) = c by omega]
    · rw [List.getElem?_set_ne (Ne.symm hik), q_fs_at hi, q_fs_at hi]
      have : q_up mem c k v (c.toNat : Nat) i = mem (c.toNat : Nat) i := by
        unfold q_up
        rw [if_neg]
        intro h
        omega
      rw [this]
  · rw [List.getElem?_eq_none (by rw [q_fs_len]; omega), List.getElem?_eq_none (by rw [List.length_set, q_fs_len]; omega)]
theorem q_fs_setr {ad : Nat → Nat} {rf mem : qm} {ci k n : Nat} {c v : Int} (hc : 0 ≤ c) (hk : k < n) (hf : q_ft ci k ≠ 0) : q_fs ad (q_up rf c k v) mem ci c.toNat n = (q_fs ad rf mem ci c.toNat n).set k (q_fv ad v) := by
  apply List.ext_getElem?
  intro i
  by_cases hi : i < n
  · by_cases hik : i = k
    · subst hik
      rw [List.getElem?_set_self (by rw [q_fs_len]; exact hk), q_fs_at hk, if_neg hf]
      simp [q_up, show ((c.toNat : Nat) : Int) = c by omega]
    · rw [List.getElem?_set_ne (Ne.symm hik), q_fs_at hi, q_fs_at hi]
      have : q_up rf c k v (c.toNat : Nat) i = rf (c.toNat : Nat) i := by
        unfold q_up
        rw [if_neg]
        intro h
        omega
      rw [this]
  · rw [List.getElem?_eq_none (by rw [q_fs_len]; omega), List.getElem?_eq_none (by rw [List.length_set, q_fs_len]; omega)]
theorem q_iX0 : (u_ws RX0 TX0 3).all (fun w => decide (w ∈ tables_1) && goodWord w) = true := by decide +kernel
theorem q_iX1 : (u_ws RX1 TX1 9).all (fun w => decide (w ∈ tables_1) && goodWord w) = true := by decide +kernel
theorem q_iX2 : (u_ws RX2 TX2 6).all (fun w => decide (w ∈ tables_1) && goodWord w) = true := by decide +kernel
theorem q_iX3 : (u_ws RX3 TX3 3).all (fun w => decide (w ∈ tables_1) && goodWord w) = true := by decide +kernel
theorem q_iX4 : (u_ws RX4 TX4 6).all (fun w => decide (w ∈ tables_1) && goodWord w) = true := by decide +kernel
theorem q_iX5 : (u_ws RX5 TX5 4).all (fun w => decide (w ∈ tables_1) && goodWord w) = true := by decide +kernel
theorem q_iX6 : (u_ws RX6 TX6 5).all (fun w => decide (w ∈ tables_1) && goodWord w) = true := by decide +kernel
theorem q_iX7 : (u_ws RX7 TX7 10).all (fun w => decide (w ∈ tables_1) && goodWord w) = true := by decide +kernel
theorem q_iX8 : (u_ws RX8 TX8 5).all (fun w => decide (w ∈ tables_1) && goodWord w) = true := by decide +kernel
theorem q_iX9 : (u_ws RX9 TX9 4).all (fun w => decide (w ∈ tables_1) && goodWord w) = true := by decide +kernel
theorem q_iX10 : (u_ws RX10 TX10 5).all (fun w => decide (w ∈ tables_1) && goodWord w) = true := by decide +kernel
theorem q_iX11 : (u_ws RX11 TX11 17).all (fun w => decide (w ∈ tables_1) && goodWord w) = true := by decide +kernel
theorem q_iX12 : (u_ws RX12 TX12 55).all (fun w => decide (w ∈ tables_1) && goodWord w) = true := by decide +kernel
theorem q_iX {C : String} {T : u_T} {N : Nat} (h : (u_ws C T N).all (fun w => decide (w ∈ tables_1) && goodWord w) = true) : ∀ w ∈ u_ws C T N, w ∈ q_TB := by
  intro w hw
  have h1 := List.all_eq_true.mp h w hw
  simp only [Bool.and_eq_true, decide_eq_true_eq] at h1
  exact q_tb h1.1 h1.2
/-- what the tables say of a class: its fields' words, their types, their names -/
theorem q_clo : ∀ (ci : Nat) (C : String) (T : u_T) (N : Nat), q_cl[ci]? = some (C, T, N) → (∀ w ∈ u_ws C T N, w ∈ q_TB) ∧ ∃ ty : Nat → FieldType, (∀ k, k < N → parseFieldDescriptor (T k).2.2.1 = some (ty k)) ∧ ∀ a, a < N → ∀ b, b < N → a ≠ b → (T a).2.1 ≠ (T b).2.1
  | 0, _, _, _, h => by cases h; exact ⟨q_iX q_iX0, tyX0, tyX0_ok, nmX0⟩
  | 1, _, _, _, h => by cases h; exact ⟨q_iX q_iX1, tyX1, tyX1_ok, nmX1⟩
  | 2, _, _, _, h => by cases h; exact ⟨q_iX q_iX2, tyX2, tyX2_ok, nmX2⟩
  | 3, _, _, _, h => by cases h; exact ⟨q_iX q_iX3, tyX3, tyX3_ok, nmX3⟩
  | 4, _, _, _, h => by cases h; exact ⟨q_iX q_iX4, tyX4, tyX4_ok, nmX4⟩
  | 5, _, _, _, h => by cases h; exact ⟨q_iX q_iX5, tyX5, tyX5_ok, nmX5⟩
  | 6, _, _, _, h => by cases h; exact ⟨q_iX q_iX6, tyX6, tyX6_ok, nmX6⟩
  | 7, _, _, _, h => by cases h; exact ⟨q_iX q_iX7, tyX7, tyX7_ok, nmX7⟩
  | 8, _, _, _, h => by cases h; exact ⟨q_iX q_iX8, tyX8, tyX8_ok, nmX8⟩
  | 9, _, _, _, h => by cases h; exact ⟨q_iX q_iX9, tyX9, tyX9_ok, nmX9⟩
  | 10, _, _, _, h => by cases h; exact ⟨q_iX q_iX10, tyX10, tyX10_ok, nmX10⟩
  | 11, _, _, _, h => by cases h; exact ⟨q_iX q_iX11, tyX11, tyX11_ok, nmX11⟩
  | 12, _, _, _, h => by cases h; exact ⟨q_iX q_iX12, tyX12, tyX12_ok, nmX12⟩
  | k + 13, _, _, _, h => by simp at h
section QS
variable {y : MethodName} {cc : ByteArray} {nL : Nat} {rt : Option FieldType} {d kc ks : Nat} {K : Int → qh → Prop} {pc : Nat} {L st : List qv} {sh : List (Nat × Nat)} {rf mem : qm}
theorem q_getI {index ci k n : Nat} {kI c : Int} {C : String} {T : u_T} (hd : decode cc pc = .ok (.getfield index, 3)) (hcl : q_cl[ci]? = some (C, T, n)) (hk : k < n) (hkI : (k : Int) = kI) (hw : Cond.fieldLink y.cls index (T k).1 (T k).2.1 (T k).2.2.1 ∈ q_TB) (hf : q_ft ci k = 0) (hs : sh[c.toNat]? = some (ci + 5, n)) (kk : q_At y cc nL rt d kc ks K (pc + 3) L ((0, mem c kI) :: st) (sh, rf, mem)) : q_At y cc nL rt d kc ks K pc L ((2, c) :: st) (sh, rf, mem) := by
  subst hkI
  intro p l e s m args below meth c0 H locs cells slots mc ms D cid ad0 ad n0 A ls C R hA hx hn hL hst hcz hsz
  obtain ⟨h1, h2, h3, h4, h5, h6, h7, h8⟩ := id C
  obtain ⟨hK, hP, hD, hS, hg, hX, hZ⟩ := id R
  obtain ⟨hc0, hst⟩ := List.forall_mem_cons.mp hst
  have hcc : ((c.toNat : Nat) : Int) = c := by have := hc0.1; simp only at this; omega
  have hr := hg.i (i := k) hc0.1 (by omega) hs (by simp only; omega)
  have z := kk p l e s m args below meth c0 H locs cells slots mc ms D cid ad0 ad n0 A ls C R hA hx hn hL (List.forall_mem_cons.mpr ⟨hr, hst⟩) hcz hsz
  refine va_get h1 h2 h8 (q_clo ci _ _ _ hcl).1 h7 hK hP c.toNat (q_ws_at hs) hcl k hk (h8 _ hw) (fun _ h => h) (q_fs_at hk) hd ?_
  rw [if_pos hf, hcc]
  exact z
theorem q_getR {index ci k n : Nat} {kI c : Int} {C : String} {T : u_T} (hd : decode cc pc = .ok (.getfield index, 3)) (hcl : q_cl[ci]? = some (C, T, n)) (hk : k < n) (hkI : (k : Int) = kI) {r : Int} (hw : Cond.fieldLink y.cls index (T k).1 (T k).2.1 (T k).2.2.1 ∈ q_TB) (hf : q_ft ci k ≠ 0) (hs : sh[c.toNat]? = some (ci + 5, n)) (hr : rf c kI = r) (h0 : 0 ≤ r) (kk : q_At y cc nL rt d kc ks K (pc + 3) L ((2, r) :: st) (sh, rf, mem)) : q_At y cc nL rt d kc ks K pc L ((2, c) :: st) (sh, rf, mem) := by
  subst hkI
  intro p l e s m args below meth c0 H locs cells slots mc ms D cid ad0 ad n0 A ls C R hA hx hn hL hst hcz hsz
  obtain ⟨h1, h2, h3, h4, h5, h6, h7, h8⟩ := id C
  obtain ⟨hK, hP, hD, hS, hg, hX, hZ⟩ := id R
  obtain ⟨hc0, hst⟩ := List.forall_mem_cons.mp hst
  have hcc : ((c.toNat : Nat) : Int) = c := by have := hc0.1; simp only at this; omega
  have hr2 := hg.r (c := c) (i := k) hc0.1 (by omega)
  rw [hr] at hr2
  have z := kk p l e s m args below meth c0 H locs cells slots mc ms D cid ad0 ad n0 A ls C R hA hx hn hL (List.forall_mem_cons.mpr ⟨⟨h0, hr2⟩, hst⟩) hcz hsz
  refine va_get h1 h2 h8 (q_clo ci _ _ _ hcl).1 h7 hK hP c.toNat (q_ws_at hs) hcl k hk (h8 _ hw) (fun _ h => h) (q_fs_at hk) hd ?_
  rw [if_neg hf, hcc, hr, q_fv, if_neg (by omega)]
  exact z
theorem q_putI {index ci k n : Nat} {kI c : Int} {C : String} {T : u_T} (hd : decode cc pc = .ok (.putfield index, 3)) (hcl : q_cl[ci]? = some (C, T, n)) (hk : k < n) (hkI : (k : Int) = kI) {v : Int} {ty : FieldType} (hw : Cond.fieldLink y.cls index (T k).1 (T k).2.1 (T k).2.2.1 ∈ q_TB) (hfin : (T k).2.2.2 = false) (hf : q_ft ci k = 0) (hpd : parseFieldDescriptor (T k).2.2.1 = some ty) (hnr : q_in32 v → narrow ty (.int (Int32.ofInt v)) = .int (Int32.ofInt v) ∧ fits ty (.int (Int32.ofInt v)) = true) (hs : sh[c.toNat]? = some (ci + 5, n)) (kk : q_At y cc nL rt d kc ks K (pc + 3) L st (sh, rf, q_up mem c kI v)) : q_At y cc nL rt d kc ks K pc L ((0, v) :: (2, c) :: st) (sh, rf, mem) := by
  subst hkI
  intro p l e s m args below meth c0 H locs cells slots mc ms D cid ad0 ad n0 A ls C R hA hx hn hL hst hcz hsz
  obtain ⟨h1, h2, h3, h4, h5, h6, h7, h8⟩ := id C
  obtain ⟨hK, hP, hD, hS, hg, hX, hZ⟩ := id R
  obtain ⟨hv0, hst⟩ := List.forall_mem_cons.mp hst
  obtain ⟨hc0, hst⟩ := List.forall_mem_cons.mp hst
  obtain ⟨g1, ty0, g2, g3⟩ := q_clo ci _ _ _ hcl
  have hc1 : 0 ≤ c := hc0.1
  refine va_put h1 h2 h8 g1 ty0 g2 g3 h7 hK hP hD hS c.toNat (q_ws_at hs) hcl k hk (h8 _ hw) (fun _ h => h) hfin hpd (hnr hv0).1 (hnr hv0).2 (by rw [q_fs_len]; exact hk) hd (fun H1 locs1 hP1 hD1 hS1 => ?_)
  have hE : (q_ws cid ad (sh, rf, mem)).set c.toNat (ad c.toNat, Sum.inr (ci, (q_fs ad rf mem ci c.toNat n).set k (.int (Int32.ofInt v)))) = q_ws cid ad (sh, rf, q_up mem c k v) :=
    q_ws_set hs (by show Sum.inr (ci, q_fs ad rf (q_up mem c k v) ci c.toNat n) = _; rw [q_fs_set hc1 hk hf]) (fun k' hk' j => ⟨rfl, q_up_ne hk' hc1 j⟩)
  exact kk p l e s m args below meth c0 H1 locs1 cells slots mc ms D cid ad0 ad n0 A ls C ⟨hK, hE ▸ hP1, hE ▸ hD1, hS1, hg.up hv0, hX, hZ⟩ hA hx hn hL hst hcz hsz
theorem q_putIF {index ci k n : Nat} {kI c : Int} {C : String} {T : u_T} (hd : decode cc pc = .ok (.putfield index, 3)) (hcl : q_cl[ci]? = some (C, T, n)) (hk : k < n) (hkI : (k : Int) = kI) {v : Int} {ty : FieldType} (hw : Cond.fieldLink y.cls index (T k).1 (T k).2.1 (T k).2.2.1 ∈ q_TB) (hfin : (T k).2.2.2 = true) (hyn : y.name = "<init>") (hdecl : (T k).1 = y.cls) (hf : q_ft ci k = 0) (hpd : parseFieldDescriptor (T k).2.2.1 = some ty) (hnr : q_in32 v → narrow ty (.int (Int32.ofInt v)) = .int (Int32.ofInt v) ∧ fits ty (.int (Int32.ofInt v)) = true) (hs : sh[c.toNat]? = some (ci + 5, n)) (kk : q_At y cc nL rt d kc ks K (pc + 3) L st (sh, rf, q_up mem c kI v)) : q_At y cc nL rt d kc ks K pc L ((0, v) :: (2, c) :: st) (sh, rf, mem) := by
  subst hkI
  intro p l e s m args below meth c0 H locs cells slots mc ms D cid ad0 ad n0 A ls C R hA hx hn hL hst hcz hsz
  obtain ⟨h1, h2, h3, h4, h5, h6, h7, h8⟩ := id C
  obtain ⟨hK, hP, hD, hS, hg, hX, hZ⟩ := id R
  obtain ⟨hv0, hst⟩ := List.forall_mem_cons.mp hst
  obtain ⟨hc0, hst⟩ := List.forall_mem_cons.mp hst
  obtain ⟨g1, ty0, g2, g3⟩ := q_clo ci _ _ _ hcl
  have hc1 : 0 ≤ c := hc0.1
  refine va_putF h1 h2 h8 g1 ty0 g2 g3 h7 hK hP hD hS c.toNat (q_ws_at hs) hcl k hk (h8 _ hw) (fun _ h => h) hfin (h6.trans hyn) hdecl hpd (hnr hv0).1 (hnr hv0).2 (by rw [q_fs_len]; exact hk) hd (fun H1 locs1 hP1 hD1 hS1 => ?_)
  have hE : (q_ws cid ad (sh, rf, mem)).set c.toNat (ad c.toNat, Sum.inr (ci, (q_fs ad rf mem ci c.toNat n).set k (.int (Int32.ofInt v)))) = q_ws cid ad (sh, rf, q_up mem c k v) :=
    q_ws_set hs (by show Sum.inr (ci, q_fs ad rf (q_up mem c k v) ci c.toNat n) = _; rw [q_fs_set hc1 hk hf]) (fun k' hk' j => ⟨rfl, q_up_ne hk' hc1 j⟩)
  exact kk p l e s m args below meth c0 H1 locs1 cells slots mc ms D cid ad0 ad n0 A ls C ⟨hK, hE ▸ hP1, hE ▸ hD1, hS1, hg.up hv0, hX, hZ⟩ hA hx hn hL hst hcz hsz
theorem q_putR {index ci k n : Nat} {kI c : Int} {C : String} {T : u_T} (hd : decode cc pc = .ok (.putfield index, 3)) (hcl : q_cl[ci]? = some (C, T, n)) (hk : k < n) (hkI : (k : Int) = kI) {v : Int} {ty : FieldType} (hw : Cond.fieldLink y.cls index (T k).1 (T k).2.1 (T k).2.2.1 ∈ q_TB) (hfin : (T k).2.2.2 = false) (hf : q_ft ci k ≠ 0) (hpd : parseFieldDescriptor (T k).2.2.1 = some ty) (hnr : ∀ a : Nat, narrow ty (.ref a) = .ref a ∧ fits ty (.ref a) = true) (hs : sh[c.toNat]? = some (ci + 5, n)) (kk : q_At y cc nL rt d kc ks K (pc + 3) L st (sh, q_up rf c kI v, mem)) : q_At y cc nL rt d kc ks K pc L ((2, v) :: (2, c) :: st) (sh, rf, mem) := by
  subst hkI
  intro p l e s m args below meth c0 H locs cells slots mc ms D cid ad0 ad n0 A ls C R hA hx hn hL hst hcz hsz
  obtain ⟨h1, h2, h3, h4, h5, h6, h7, h8⟩ := id C
  obtain ⟨hK, hP, hD, hS, hg, hX, hZ⟩ := id R
  obtain ⟨hv0, hst⟩ := List.forall_mem_cons.mp hst
  obtain ⟨hc0, hst⟩ := List.forall_mem_cons.mp hst
  obtain ⟨g1, ty0, g2, g3⟩ := q_clo ci _ _ _ hcl
  have hc1 : 0 ≤ c := hc0.1
  have hv1 : 0 ≤ v := hv0.1
  refine va_put h1 h2 h8 g1 ty0 g2 g3 h7 hK hP hD hS c.toNat (q_ws_at hs) hcl k hk (h8 _ hw) (fun _ h => h) hfin hpd (hnr _).1 (hnr _).2 (by rw [q_fs_len]; exact hk) hd (fun H1 locs1 hP1 hD1 hS1 => ?_)
  have hE : (q_ws cid ad (sh, rf, mem)).set c.toNat (ad c.toNat, Sum.inr (ci, (q_fs ad rf mem ci c.toNat n).set k (.ref (ad v.toNat)))) = q_ws cid ad (sh, q_up rf c k v, mem) :=
    q_ws_set hs (by show Sum.inr (ci, q_fs ad (q_up rf c k v) mem ci c.toNat n) = _; rw [q_fs_setr hc1 hk hf, q_fv, if_neg (by omega)]) (fun k' hk' j => ⟨q_up_ne hk' hc1 j, rfl⟩)
  exact kk p l e s m args below meth c0 H1 locs1 cells slots mc ms D cid ad0 ad n0 A ls C ⟨hK, hE ▸ hP1, hE ▸ hD1, hS1, hg.upr hv0.2, hX, hZ⟩ hA hx hn hL hst hcz hsz
theorem q_putRF {index ci k n : Nat} {kI c : Int} {C : String} {T : u_T} (hd : decode cc pc = .ok (.putfield index, 3)) (hcl : q_cl[ci]? = some (C, T, n)) (hk : k < n) (hkI : (k : Int) = kI) {v : Int} {ty : FieldType} (hw : Cond.fieldLink y.cls index (T k).1 (T k).2.1 (T k).2.2.1 ∈ q_TB) (hfin : (T k).2.2.2 = true) (hyn : y.name = "<init>") (hdecl : (T k).1 = y.cls) (hf : q_ft ci k ≠ 0) (hpd : parseFieldDescriptor (T k).2.2.1 = some ty) (hnr : ∀ a : Nat, narrow ty (.ref a) = .ref a ∧ fits ty (.ref a) = true) (hs : sh[c.toNat]? = some (ci + 5, n)) (kk : q_At y cc nL rt d kc ks K (pc + 3) L st (sh, q_up rf c kI v, mem)) : q_At y cc nL rt d kc ks K pc L ((2, v) :: (2, c) :: st) (sh, rf, mem) := by
  subst hkI
  intro p l e s m args below meth c0 H locs cells slots mc ms D cid ad0 ad n0 A ls C R hA hx hn hL hst hcz hsz
  obtain ⟨h1, h2, h3, h4, h5, h6, h7, h8⟩ := id C
  obtain ⟨hK, hP, hD, hS, hg, hX, hZ⟩ := id R
  obtain ⟨hv0, hst⟩ := List.forall_mem_cons.mp hst
  obtain ⟨hc0, hst⟩ := List.forall_mem_cons.mp hst
  obtain ⟨g1, ty0, g2, g3⟩ := q_clo ci _ _ _ hcl
  have hc1 : 0 ≤ c := hc0.1
  have hv1 : 0 ≤ v := hv0.1
  refine va_putF h1 h2 h8 g1 ty0 g2 g3 h7 hK hP hD hS c.toNat (q_ws_at hs) hcl k hk (h8 _ hw) (fun _ h => h) hfin (h6.trans hyn) hdecl hpd (hnr _).1 (hnr _).2 (by rw [q_fs_len]; exact hk) hd (fun H1 locs1 hP1 hD1 hS1 => ?_)
  have hE : (q_ws cid ad (sh, rf, mem)).set c.toNat (ad c.toNat, Sum.inr (ci, (q_fs ad rf mem ci c.toNat n).set k (.ref (ad v.toNat)))) = q_ws cid ad (sh, q_up rf c k v, mem) :=
    q_ws_set hs (by show Sum.inr (ci, q_fs ad (q_up rf c k v) mem ci c.toNat n) = _; rw [q_fs_setr hc1 hk hf, q_fv, if_neg (by omega)]) (fun k' hk' j => ⟨q_up_ne hk' hc1 j, rfl⟩)
  exact kk p l e s m args below meth c0 H1 locs1 cells slots mc ms D cid ad0 ad n0 A ls C ⟨hK, hE ▸ hP1, hE ▸ hD1, hS1, hg.upr hv0.2, hX, hZ⟩ hA hx hn hL hst hcz hsz
theorem q_iald {c i : Int} {n : Nat} (hd : decode cc pc = .ok (.iaload, 1)) (hs : sh[c.toNat]? = some (0, n)) (hi : 0 ≤ i) (hi2 : i < n) (kk : q_At y cc nL rt d kc ks K (pc + 1) L ((0, mem c i) :: st) (sh, rf, mem)) : q_At y cc nL rt d kc ks K pc L ((0, i) :: (2, c) :: st) (sh, rf, mem) := by
  intro p l e s m args below meth c0 H locs cells slots mc ms D cid ad0 ad n0 A ls C R hA hx hn hL hst hcz hsz
  obtain ⟨h1, h2, h3, h4, h5, h6, h7, h8⟩ := id C
  obtain ⟨hK, hP, hD, hS, hg, hX, hZ⟩ := id R
  obtain ⟨hi0, hst⟩ := List.forall_mem_cons.mp hst
  obtain ⟨hc0, hst⟩ := List.forall_mem_cons.mp hst
  have hc1 : 0 ≤ c := hc0.1
  have z := kk p l e s m args below meth c0 H locs cells slots mc ms D cid ad0 ad n0 A ls C R hA hx hn hL (List.forall_mem_cons.mpr ⟨hg.i hc1 hi hs (show (0 : Nat) ≠ 1 by decide), hst⟩) hcz hsz
  refine va_iald h1 h2 hK hP c.toNat 0 (q_ws_at hs) rfl (q_vpin hi0 hi hi2) hd ?_
  rw [q_clamp hi0, show ((c.toNat : Nat) : Int) = c by omega, show ((i.toNat : Nat) : Int) = i by omega]
  exact z
theorem q_bald {c i : Int} {n : Nat} (hd : decode cc pc = .ok (.baload, 1)) (hs : sh[c.toNat]? = some (2, n)) (hi : 0 ≤ i) (hi2 : i < n) (kk : q_At y cc nL rt d kc ks K (pc + 1) L ((0, mem c i) :: st) (sh, rf, mem)) : q_At y cc nL rt d kc ks K pc L ((0, i) :: (2, c) :: st) (sh, rf, mem) := by
  intro p l e s m args below meth c0 H locs cells slots mc ms D cid ad0 ad n0 A ls C R hA hx hn hL hst hcz hsz
  obtain ⟨h1, h2, h3, h4, h5, h6, h7, h8⟩ := id C
  obtain ⟨hK, hP, hD, hS, hg, hX, hZ⟩ := id R
  obtain ⟨hi0, hst⟩ := List.forall_mem_cons.mp hst
  obtain ⟨hc0, hst⟩ := List.forall_mem_cons.mp hst
  have hc1 : 0 ≤ c := hc0.1
  have z := kk p l e s m args below meth c0 H locs cells slots mc ms D cid ad0 ad n0 A ls C R hA hx hn hL (List.forall_mem_cons.mpr ⟨hg.i hc1 hi hs (show (2 : Nat) ≠ 1 by decide), hst⟩) hcz hsz
  refine va_bald h1 h2 hK hP c.toNat 2 (q_ws_at hs) rfl (q_vpin hi0 hi hi2) hd ?_
  rw [q_clamp hi0, show ((c.toNat : Nat) : Int) = c by omega, show ((i.toNat : Nat) : Int) = i by omega]
  exact z
theorem q_zald {c i : Int} {n : Nat} (hd : decode cc pc = .ok (.baload, 1)) (hs : sh[c.toNat]? = some (3, n)) (hi : 0 ≤ i) (hi2 : i < n) (kk : q_At y cc nL rt d kc ks K (pc + 1) L ((0, mem c i) :: st) (sh, rf, mem)) : q_At y cc nL rt d kc ks K pc L ((0, i) :: (2, c) :: st) (sh, rf, mem) := by
  intro p l e s m args below meth c0 H locs cells slots mc ms D cid ad0 ad n0 A ls C R hA hx hn hL hst hcz hsz
  obtain ⟨h1, h2, h3, h4, h5, h6, h7, h8⟩ := id C
  obtain ⟨hK, hP, hD, hS, hg, hX, hZ⟩ := id R
  obtain ⟨hi0, hst⟩ := List.forall_mem_cons.mp hst
  obtain ⟨hc0, hst⟩ := List.forall_mem_cons.mp hst
  have hc1 : 0 ≤ c := hc0.1
  have z := kk p l e s m args below meth c0 H locs cells slots mc ms D cid ad0 ad n0 A ls C R hA hx hn hL (List.forall_mem_cons.mpr ⟨hg.i hc1 hi hs (show (3 : Nat) ≠ 1 by decide), hst⟩) hcz hsz
  refine va_zald h1 h2 hK hP c.toNat 3 (q_ws_at hs) rfl (q_vpin hi0 hi hi2) hd ?_
  rw [q_clamp hi0, show ((c.toNat : Nat) : Int) = c by omega, show ((i.toNat : Nat) : Int) = i by omega]
  exact z
theorem q_lald {c i : Int} {n : Nat} (hd : decode cc pc = .ok (.laload, 1)) (hs : sh[c.toNat]? = some (1, n)) (hi : 0 ≤ i) (hi2 : i < n) (kk : q_At y cc nL rt d kc ks K (pc + 1) L ((1, mem c i) :: st) (sh, rf, mem)) : q_At y cc nL rt d kc ks K pc L ((0, i) :: (2, c) :: st) (sh, rf, mem) := by
  intro p l e s m args below meth c0 H locs cells slots mc ms D cid ad0 ad n0 A ls C R hA hx hn hL hst hcz hsz
  obtain ⟨h1, h2, h3, h4, h5, h6, h7, h8⟩ := id C
  obtain ⟨hK, hP, hD, hS, hg, hX, hZ⟩ := id R
  obtain ⟨hi0, hst⟩ := List.forall_mem_cons.mp hst
  obtain ⟨hc0, hst⟩ := List.forall_mem_cons.mp hst
  have hc1 : 0 ≤ c := hc0.1
  have z := kk p l e s m args below meth c0 H locs cells slots mc ms D cid ad0 ad n0 A ls C R hA hx hn hL (List.forall_mem_cons.mpr ⟨hg.l hc1 hi, hst⟩) hcz hsz
  refine va_lald h1 h2 hK hP c.toNat 1 (q_ws_at hs) rfl (q_vpin hi0 hi hi2) hd ?_
  rw [q_clamp hi0, show ((c.toNat : Nat) : Int) = c by omega, show ((i.toNat : Nat) : Int) = i by omega]
  exact z
theorem q_aald {c i r : Int} {n : Nat} (hd : decode cc pc = .ok (.aaload, 1)) (hs : sh[c.toNat]? = some (4, n)) (hi : 0 ≤ i) (hi2 : i < n) (hr : rf c i = r) (h0 : 0 ≤ r) (kk : q_At y cc nL rt d kc ks K (pc + 1) L ((2, r) :: st) (sh, rf, mem)) : q_At y cc nL rt d kc ks K pc L ((0, i) :: (2, c) :: st) (sh, rf, mem) := by
  intro p l e s m args below meth c0 H locs cells slots mc ms D cid ad0 ad n0 A ls C R hA hx hn hL hst hcz hsz
  obtain ⟨h1, h2, h3, h4, h5, h6, h7, h8⟩ := id C
  obtain ⟨hK, hP, hD, hS, hg, hX, hZ⟩ := id R
  obtain ⟨hi0, hst⟩ := List.forall_mem_cons.mp hst
  obtain ⟨hc0, hst⟩ := List.forall_mem_cons.mp hst
  have hc1 : 0 ≤ c := hc0.1
  have hr2 := hg.r (c := c) (i := i) hc1 hi
  rw [hr] at hr2
  have z := kk p l e s m args below meth c0 H locs cells slots mc ms D cid ad0 ad n0 A ls C R hA hx hn hL (List.forall_mem_cons.mpr ⟨⟨h0, hr2⟩, hst⟩) hcz hsz
  refine va_aldq (C := RX7) h1 h2 hK hP c.toNat 4 (q_ws_at hs) rfl (q_vpin hi0 hi hi2) hd ?_
  simp only [q_clamp hi0, show ((c.toNat : Nat) : Int) = c by omega, show ((i.toNat : Nat) : Int) = i by omega, hr]
  rw [if_neg (by omega)]
  exact z
theorem q_iast {c i v : Int} {n : Nat} (hd : decode cc pc = .ok (.iastore, 1)) (hs : sh[c.toNat]? = some (0, n)) (hi : 0 ≤ i) (hi2 : i < n) (kk : q_At y cc nL rt d kc ks K (pc + 1) L st (sh, rf, q_up mem c i v)) : q_At y cc nL rt d kc ks K pc L ((0, v) :: (0, i) :: (2, c) :: st) (sh, rf, mem) := by
  intro p l e s m args below meth c0 H locs cells slots mc ms D cid ad0 ad n0 A ls C R hA hx hn hL hst hcz hsz
  obtain ⟨h1, h2, h3, h4, h5, h6, h7, h8⟩ := id C
  obtain ⟨hK, hP, hD, hS, hg, hX, hZ⟩ := id R
  obtain ⟨hv0, hst⟩ := List.forall_mem_cons.mp hst
  obtain ⟨hi0, hst⟩ := List.forall_mem_cons.mp hst
  obtain ⟨hc0, hst⟩ := List.forall_mem_cons.mp hst
  have hc1 : 0 ≤ c := hc0.1
  refine va_iast h1 h2 hK hP hD hS c.toNat 0 (q_ws_at hs) rfl (q_vpin hi0 hi hi2) hd (fun H1 locs1 hP1 hD1 hS1 => ?_)
  have hE : (q_ws cid ad (sh, rf, mem)).set c.toNat (ad c.toNat, Sum.inl (cid 0, n, .inl (upd (fun j => Int32.ofInt (mem (c.toNat : Nat) j)) (Int32.ofInt i).toNatClampNeg (Int32.ofInt v)))) = q_ws cid ad (sh, rf, q_up mem c i v) := by
    refine q_ws_set hs ?_ (fun k' hk' j => ⟨rfl, q_up_ne hk' hc1 j⟩)
    show (Sum.inl (cid 0, n, .inl (fun j : Nat => Int32.ofInt (q_up mem c i v (c.toNat : Nat) j))) : va_E) = _
    congr 4
    funext j
    rw [q_clamp hi0]
    unfold q_up upd
    by_cases hj : j = i.toNat
    · rw [if_pos (by omega), if_pos hj]
    · rw [if_neg (by omega), if_neg hj]
  exact kk p l e s m args below meth c0 H1 locs1 cells slots mc ms D cid ad0 ad n0 A ls C ⟨hK, hE ▸ hP1, hE ▸ hD1, hS1, hg.up hv0, hX, hZ⟩ hA hx hn hL hst hcz hsz
theorem q_bast {c i v : Int} {n : Nat} (hd : decode cc pc = .ok (.bastore, 1)) (hs : sh[c.toNat]? = some (2, n)) (hi : 0 ≤ i) (hi2 : i < n) (hnv : vp_nar .byte (Int32.ofInt v) = Int32.ofInt v) (kk : q_At y cc nL rt d kc ks K (pc + 1) L st (sh, rf, q_up mem c i v)) : q_At y cc nL rt d kc ks K pc L ((0, v) :: (0, i) :: (2, c) :: st) (sh, rf, mem) := by
  intro p l e s m args below meth c0 H locs cells slots mc ms D cid ad0 ad n0 A ls C R hA hx hn hL hst hcz hsz
  obtain ⟨h1, h2, h3, h4, h5, h6, h7, h8⟩ := id C
  obtain ⟨hK, hP, hD, hS, hg, hX, hZ⟩ := id R
  obtain ⟨hv0, hst⟩ := List.forall_mem_cons.mp hst
  obtain ⟨hi0, hst⟩ := List.forall_mem_cons.mp hst
  obtain ⟨hc0, hst⟩ := List.forall_mem_cons.mp hst
  have hc1 : 0 ≤ c := hc0.1
  refine va_bast h1 h2 hK hP hD hS c.toNat 2 (q_ws_at hs) rfl (q_vpin hi0 hi hi2) hd (fun H1 locs1 hP1 hD1 hS1 => ?_)
  rw [hnv] at hP1 hD1
  have hE : (q_ws cid ad (sh, rf, mem)).set c.toNat (ad c.toNat, Sum.inl (cid 2, n, .inl (upd (fun j => Int32.ofInt (mem (c.toNat : Nat) j)) (Int32.ofInt i).toNatClampNeg (Int32.ofInt v)))) = q_ws cid ad (sh, rf, q_up mem c i v) := by
    refine q_ws_set hs ?_ (fun k' hk' j => ⟨rfl, q_up_ne hk' hc1 j⟩)
    show (Sum.inl (cid 2, n, .inl (fun j : Nat => Int32.ofInt (q_up mem c i v (c.toNat : Nat) j))) : va_E) = _
    congr 4
    funext j
    rw [q_clamp hi0]
    unfold q_up upd
    by_cases hj : j = i.toNat
    · rw [if_pos (by omega), if_pos hj]
    · rw [if_neg (by omega), if_neg hj]
  exact kk p l e s m args below meth c0 H1 locs1 cells slots mc ms D cid ad0 ad n0 A ls C ⟨hK, hE ▸ hP1, hE ▸ hD1, hS1, hg.up hv0, hX, hZ⟩ hA hx hn hL hst hcz hsz
theorem q_zast {c i v : Int} {n : Nat} (hd : decode cc pc = .ok (.bastore, 1)) (hs : sh[c.toNat]? = some (3, n)) (hi : 0 ≤ i) (hi2 : i < n) (hnv : vp_nar .boolean (Int32.ofInt v) = Int32.ofInt v) (kk : q_At y cc nL rt d kc ks K (pc + 1) L st (sh, rf, q_up mem c i v)) : q_At y cc nL rt d kc ks K pc L ((0, v) :: (0, i) :: (2, c) :: st) (sh, rf, mem) := by
  intro p l e s m args below meth c0 H locs cells slots mc ms D cid ad0 ad n0 A ls C R hA hx hn hL hst hcz hsz
  obtain ⟨h1, h2, h3, h4, h5, h6, h7, h8⟩ := id C
  obtain ⟨hK, hP, hD, hS, hg, hX, hZ⟩ := id R
  obtain ⟨hv0, hst⟩ := List.forall_mem_cons.mp hst
  obtain ⟨hi0, hst⟩ := List.forall_mem_cons.mp hst
  obtain ⟨hc0, hst⟩ := List.forall_mem_cons.mp hst
  have hc1 : 0 ≤ c := hc0.1
  refine va_zast h1 h2 hK hP hD hS c.toNat 3 (q_ws_at hs) rfl (q_vpin hi0 hi hi2) hd (fun H1 locs1 hP1 hD1 hS1 => ?_)
  rw [hnv] at hP1 hD1
  have hE : (q_ws cid ad (sh, rf, mem)).set c.toNat (ad c.toNat, Sum.inl (cid 3, n, .inl (upd (fun j => Int32.ofInt (mem (c.toNat : Nat) j)) (Int32.ofInt i).toNatClampNeg (Int32.ofInt v)))) = q_ws cid ad (sh, rf, q_up mem c i v) := by
    refine q_ws_set hs ?_ (fun k' hk' j => ⟨rfl, q_up_ne hk' hc1 j⟩)
    show (Sum.inl (cid 3, n, .inl (fun j : Nat => Int32.ofInt (q_up mem c i v (c.toNat : Nat) j))) : va_E) = _
    congr 4
    funext j
    rw [q_clamp hi0]
    unfold q_up upd
    by_cases hj : j = i.toNat
    · rw [if_pos (by omega), if_pos hj]
    · rw [if_neg (by omega), if_neg hj]
  exact kk p l e s m args below meth c0 H1 locs1 cells slots mc ms D cid ad0 ad n0 A ls C ⟨hK, hE ▸ hP1, hE ▸ hD1, hS1, hg.up hv0, hX, hZ⟩ hA hx hn hL hst hcz hsz
theorem q_last {c i v : Int} {n : Nat} (hd : decode cc pc = .ok (.lastore, 1)) (hs : sh[c.toNat]? = some (1, n)) (hi : 0 ≤ i) (hi2 : i < n) (kk : q_At y cc nL rt d kc ks K (pc + 1) L st (sh, rf, q_up mem c i v)) : q_At y cc nL rt d kc ks K pc L ((1, v) :: (0, i) :: (2, c) :: st) (sh, rf, mem) := by
  intro p l e s m args below meth c0 H locs cells slots mc ms D cid ad0 ad n0 A ls C R hA hx hn hL hst hcz hsz
  obtain ⟨h1, h2, h3, h4, h5, h6, h7, h8⟩ := id C
  obtain ⟨hK, hP, hD, hS, hg, hX, hZ⟩ := id R
  obtain ⟨hv0, hst⟩ := List.forall_mem_cons.mp hst
  obtain ⟨hi0, hst⟩ := List.forall_mem_cons.mp hst
  obtain ⟨hc0, hst⟩ := List.forall_mem_cons.mp hst
  have hc1 : 0 ≤ c := hc0.1
  refine va_last h1 h2 hK hP hD hS c.toNat 1 (q_ws_at hs) rfl (q_vpin hi0 hi hi2) hd (fun H1 locs1 hP1 hD1 hS1 => ?_)
  have hE : (q_ws cid ad (sh, rf, mem)).set c.toNat (ad c.toNat, Sum.inl (cid 1, n, .inr (.inl (vp_updL (fun j => Int64.ofInt (mem (c.toNat : Nat) j)) (Int32.ofInt i).toNatClampNeg (Int64.ofInt v))))) = q_ws cid ad (sh, rf, q_up mem c i v) := by
    refine q_ws_set hs ?_ (fun k' hk' j => ⟨rfl, q_up_ne hk' hc1 j⟩)
    show (Sum.inl (cid 1, n, .inr (.inl (fun j : Nat => Int64.ofInt (q_up mem c i v (c.toNat : Nat) j)))) : va_E) = _
    congr 5
    funext j
    rw [q_clamp hi0]
    unfold q_up vp_updL
    by_cases hj : j = i.toNat
    · rw [if_pos (by omega), if_pos hj]
    · rw [if_neg (by omega), if_neg hj]
  exact kk p l e s m args below meth c0 H1 locs1 cells slots mc ms D cid ad0 ad n0 A ls C ⟨hK, hE ▸ hP1, hE ▸ hD1, hS1, hg.upl hs hv0, hX, hZ⟩ hA hx hn hL hst hcz hsz
theorem q_alen0 {c : Int} {n : Nat} (hd : decode cc pc = .ok (.arraylength, 1)) (hs : sh[c.toNat]? = some (0, n)) (hi2 : (n : Int) < 2147483648) (kk : q_At y cc nL rt d kc ks K (pc + 1) L ((0, (n : Int)) :: st) (sh, rf, mem)) : q_At y cc nL rt d kc ks K pc L ((2, c) :: st) (sh, rf, mem) := by
  intro p l e s m args below meth c0 H locs cells slots mc ms D cid ad0 ad n0 A ls C R hA hx hn hL hst hcz hsz
  obtain ⟨h1, h2, h3, h4, h5, h6, h7, h8⟩ := id C
  obtain ⟨hK, hP, hD, hS, hg, hX, hZ⟩ := id R
  obtain ⟨hc0, hst⟩ := List.forall_mem_cons.mp hst
  have z := kk p l e s m args below meth c0 H locs cells slots mc ms D cid ad0 ad n0 A ls C R hA hx hn hL (List.forall_mem_cons.mpr ⟨⟨by show (-2147483648 : Int) ≤ (n : Int); omega, hi2⟩, hst⟩) hcz hsz
  exact va_alen (v := Int32.ofInt n) h1 h2 hK hP c.toNat 0 (q_ws_at hs) rfl (by rw [Int32.ofInt_eq_ofNat]) hd z
theorem q_alen1 {c : Int} {n : Nat} (hd : decode cc pc = .ok (.arraylength, 1)) (hs : sh[c.toNat]? = some (1, n)) (hi2 : (n : Int) < 2147483648) (kk : q_At y cc nL rt d kc ks K (pc + 1) L ((0, (n : Int)) :: st) (sh, rf, mem)) : q_At y cc nL rt d kc ks K pc L ((2, c) :: st) (sh, rf, mem) := by
  intro p l e s m args below meth c0 H locs cells slots mc ms D cid ad0 ad n0 A ls C R hA hx hn hL hst hcz hsz
  obtain ⟨h1, h2, h3, h4, h5, h6, h7, h8⟩ := id C
  obtain ⟨hK, hP, hD, hS, hg, hX, hZ⟩ := id R
  obtain ⟨hc0, hst⟩ := List.forall_mem_cons.mp hst
  have z := kk p l e s m args below meth c0 H locs cells slots mc ms D cid ad0 ad n0 A ls C R hA hx hn hL (List.forall_mem_cons.mpr ⟨⟨by show (-2147483648 : Int) ≤ (n : Int); omega, hi2⟩, hst⟩) hcz hsz
  exact va_alen (v := Int32.ofInt n) h1 h2 hK hP c.toNat 1 (q_ws_at hs) rfl (by rw [Int32.ofInt_eq_ofNat]) hd z
theorem q_alen2 {c : Int} {n : Nat} (hd : decode cc pc = .ok (.arraylength, 1)) (hs : sh[c.toNat]? = some (2, n)) (hi2 : (n : Int) < 2147483648) (kk : q_At y cc nL rt d kc ks K (pc + 1) L ((0, (n : Int)) :: st) (sh, rf, mem)) : q_At y cc nL rt d kc ks K pc L ((2, c) :: st) (sh, rf, mem) := by
  intro p l e s m args below meth c0 H locs cells slots mc ms D cid ad0 ad n0 A ls C R hA hx hn hL hst hcz hsz
  obtain ⟨h1, h2, h3, h4, h5, h6, h7, h8⟩ := id C
  obtain ⟨hK, hP, hD, hS, hg, hX, hZ⟩ := id R
  obtain ⟨hc0, hst⟩ := List.forall_mem_cons.mp hst
  have z := kk p l e s m args below meth c0 H locs cells slots mc ms D cid ad0 ad n0 A ls C R hA hx hn hL (List.forall_mem_cons.mpr ⟨⟨by show (-2147483648 : Int) ≤ (n : Int); omega, hi2⟩, hst⟩) hcz hsz
  exact va_alen (v := Int32.ofInt n) h1 h2 hK hP c.toNat 2 (q_ws_at hs) rfl (by rw [Int32.ofInt_eq_ofNat]) hd z
theorem q_alen3 {c : Int} {n : Nat} (hd : decode cc pc = .ok (.arraylength, 1)) (hs : sh[c.toNat]? = some (3, n)) (hi2 : (n : Int) < 2147483648) (kk : q_At y cc nL rt d kc ks K (pc + 1) L ((0, (n : Int)) :: st) (sh, rf, mem)) : q_At y cc nL rt d kc ks K pc L ((2, c) :: st) (sh, rf, mem) := by
  intro p l e s m args below meth c0 H locs cells slots mc ms D cid ad0 ad n0 A ls C R hA hx hn hL hst hcz hsz
  obtain ⟨h1, h2, h3, h4, h5, h6, h7, h8⟩ := id C
  obtain ⟨hK, hP, hD, hS, hg, hX, hZ⟩ := id R
  obtain ⟨hc0, hst⟩ := List.forall_mem_cons.mp hst
  have z := kk p l e s m args below meth c0 H locs cells slots mc ms D cid ad0 ad n0 A ls C R hA hx hn hL (List.forall_mem_cons.mpr ⟨⟨by show (-2147483648 : Int) ≤ (n : Int); omega, hi2⟩, hst⟩) hcz hsz
  exact va_alen (v := Int32.ofInt n) h1 h2 hK hP c.toNat 3 (q_ws_at hs) rfl (by rw [Int32.ofInt_eq_ofNat]) hd z
theorem q_alen4 {c : Int} {n : Nat} (hd : decode cc pc = .ok (.arraylength, 1)) (hs : sh[c.toNat]? = some (4, n)) (hi2 : (n : Int) < 2147483648) (kk : q_At y cc nL rt d kc ks K (pc + 1) L ((0, (n : Int)) :: st) (sh, rf, mem)) : q_At y cc nL rt d kc ks K pc L ((2, c) :: st) (sh, rf, mem) := by
  intro p l e s m args below meth c0 H locs cells slots mc ms D cid ad0 ad n0 A ls C R hA hx hn hL hst hcz hsz
  obtain ⟨h1, h2, h3, h4, h5, h6, h7, h8⟩ := id C
  obtain ⟨hK, hP, hD, hS, hg, hX, hZ⟩ := id R
  obtain ⟨hc0, hst⟩ := List.forall_mem_cons.mp hst
  have z := kk p l e s m args below meth c0 H locs cells slots mc ms D cid ad0 ad n0 A ls C R hA hx hn hL (List.forall_mem_cons.mpr ⟨⟨by show (-2147483648 : Int) ≤ (n : Int); omega, hi2⟩, hst⟩) hcz hsz
  exact va_alen (v := Int32.ofInt n) h1 h2 hK hP c.toNat 4 (q_ws_at hs) rfl (by rw [Int32.ofInt_eq_ofNat]) hd z
theorem q_iret {v : Int} (hd : decode cc pc = .ok (.ireturn, 1)) (hk : K v (sh, rf, mem)) : q_At y cc nL (some .int) d kc ks K pc L [(0, v)] (sh, rf, mem) := by
  intro p l e s m args below meth c0 H locs cells slots mc ms D cid ad0 ad n0 A ls C R hA hx hn hL hst hcz hsz
  obtain ⟨h1, h2, h3, h4, h5, h6, h7, h8⟩ := id C
  obtain ⟨hK, hP, hD, hS, hg, hX, hZ⟩ := id R
  obtain ⟨hv0, hst⟩ := List.forall_mem_cons.mp hst
  refine W.widen (k := mc) (n := ms) (by omega) (by omega) ?_
  exact W.iret (v := Int32.ofInt v) h1 h2 h4 (fun t ht hW => ⟨⟨v, _, ad, hk, hv0, rfl, hx, hn, by rw [ht]; exact hP, hD, hg⟩, hS.F ht⟩) hS.2.2 hd h5
theorem q_zret {v : Int} (hd : decode cc pc = .ok (.ireturn, 1)) (hv : v = 0 ∨ v = 1) (hk : K v (sh, rf, mem)) : q_At y cc nL (some .boolean) d kc ks K pc L [(0, v)] (sh, rf, mem) := by
  intro p l e s m args below meth c0 H locs cells slots mc ms D cid ad0 ad n0 A ls C R hA hx hn hL hst hcz hsz
  obtain ⟨h1, h2, h3, h4, h5, h6, h7, h8⟩ := id C
  obtain ⟨hK, hP, hD, hS, hg, hX, hZ⟩ := id R
  obtain ⟨hv0, hst⟩ := List.forall_mem_cons.mp hst
  refine W.widen (k := mc) (n := ms) (by omega) (by omega) ?_
  exact W.zret (v := Int32.ofInt v) h1 h2 h4 (by rcases hv with rfl | rfl <;> rfl) (fun t ht hW => ⟨⟨v, _, ad, hk, hv0, rfl, hx, hn, by rw [ht]; exact hP, hD, hg⟩, hS.F ht⟩) hS.2.2 hd h5
theorem q_vret (hd : decode cc pc = .ok (.return_, 1)) (hk : K 0 (sh, rf, mem)) : q_At y cc nL none d kc ks K pc L [] (sh, rf, mem) := by
  intro p l e s m args below meth c0 H locs cells slots mc ms D cid ad0 ad n0 A ls C R hA hx hn hL hst hcz hsz
  obtain ⟨h1, h2, h3, h4, h5, h6, h7, h8⟩ := id C
  obtain ⟨hK, hP, hD, hS, hg, hX, hZ⟩ := id R
  refine W.widen (k := mc) (n := ms) (by omega) (by omega) ?_
  exact W.vret h1 h2 h4 (fun t ht hW => ⟨⟨0, _, ad, hk, q_in0, rfl, hx, hn, by rw [ht]; exact hP, hD, hg⟩, hS.F ht⟩) hS.2.2 hd h5
end QS
