section QR
variable {y : MethodName} {cc : ByteArray} {nL : Nat} {rt : Option FieldType} {d kc ks : Nat} {K : Int → qh → Prop} {pc : Nat} {L st : List qv} {sh : List (Nat × Nat)} {rf mem : qm}
theorem q_iconst {n v : Int} (hd : decode cc pc = .ok (.iconst n, 1)) (hv : Int32.ofInt n = Int32.ofInt v) (hr : q_in32 v) (k : q_At y cc nL rt d kc ks K (pc + 1) L ((0, v) :: st) (sh, rf, mem)) : q_At y cc nL rt d kc ks K pc L st (sh, rf, mem) := by
  intro p l e s m args below meth c H locs cells slots mc ms D cid ad0 ad n0 A ls C R hA hx hn hL hst hc hs
  obtain ⟨h1, h2, h3, h4, h5, h6, h7, h8⟩ := id C
  obtain ⟨hK, hP, hD, hS, hg, hX, hZ⟩ := id R
  exact lv_iconst (v := Int32.ofInt v) h1 h2 hd hv (k p l e s m args below meth c H locs cells slots mc ms D cid ad0 ad n0 A ls C R hA hx hn hL (List.forall_mem_cons.mpr ⟨hr, hst⟩) hc hs)
theorem q_bipush {n v : Int} (hd : decode cc pc = .ok (.bipush n, 2)) (hv : (Int8.ofInt n).toInt32 = Int32.ofInt v) (hr : q_in32 v) (k : q_At y cc nL rt d kc ks K (pc + 2) L ((0, v) :: st) (sh, rf, mem)) : q_At y cc nL rt d kc ks K pc L st (sh, rf, mem) := by
  intro p l e s m args below meth c H locs cells slots mc ms D cid ad0 ad n0 A ls C R hA hx hn hL hst hc hs
  obtain ⟨h1, h2, h3, h4, h5, h6, h7, h8⟩ := id C
  obtain ⟨hK, hP, hD, hS, hg, hX, hZ⟩ := id R
  exact lv_bipush (v := Int32.ofInt v) h1 h2 hd hv (k p l e s m args below meth c H locs cells slots mc ms D cid ad0 ad n0 A ls C R hA hx hn hL (List.forall_mem_cons.mpr ⟨hr, hst⟩) hc hs)
theorem q_sipush {n v : Int} (hd : decode cc pc = .ok (.sipush n, 3)) (hv : (Int16.ofInt n).toInt32 = Int32.ofInt v) (hr : q_in32 v) (k : q_At y cc nL rt d kc ks K (pc + 3) L ((0, v) :: st) (sh, rf, mem)) : q_At y cc nL rt d kc ks K pc L st (sh, rf, mem) := by
  intro p l e s m args below meth c H locs cells slots mc ms D cid ad0 ad n0 A ls C R hA hx hn hL hst hc hs
  obtain ⟨h1, h2, h3, h4, h5, h6, h7, h8⟩ := id C
  obtain ⟨hK, hP, hD, hS, hg, hX, hZ⟩ := id R
  exact lv_sipush (v := Int32.ofInt v) h1 h2 hd hv (k p l e s m args below meth c H locs cells slots mc ms D cid ad0 ad n0 A ls C R hA hx hn hL (List.forall_mem_cons.mpr ⟨hr, hst⟩) hc hs)
theorem q_lconst {n : Fin 2} {v : Int} (hd : decode cc pc = .ok (.lconst n, 1)) (hv : Int64.ofNat (n : Nat) = Int64.ofInt v) (hr : q_in64 v) (k : q_At y cc nL rt d kc ks K (pc + 1) L ((1, v) :: st) (sh, rf, mem)) : q_At y cc nL rt d kc ks K pc L st (sh, rf, mem) := by
  intro p l e s m args below meth c H locs cells slots mc ms D cid ad0 ad n0 A ls C R hA hx hn hL hst hc hs
  obtain ⟨h1, h2, h3, h4, h5, h6, h7, h8⟩ := id C
  obtain ⟨hK, hP, hD, hS, hg, hX, hZ⟩ := id R
  exact lv_lconst (v := Int64.ofInt v) h1 h2 hd hv (k p l e s m args below meth c H locs cells slots mc ms D cid ad0 ad n0 A ls C R hA hx hn hL (List.forall_mem_cons.mpr ⟨hr, hst⟩) hc hs)
theorem q_ldc {index : Nat} {w : Int32} {v : Int} (hd : decode cc pc = .ok (.ldc index, 2)) (hw : Cond.constant y.cls index w ∈ q_TB) (hv : w = Int32.ofInt v) (hr : q_in32 v) (k : q_At y cc nL rt d kc ks K (pc + 2) L ((0, v) :: st) (sh, rf, mem)) : q_At y cc nL rt d kc ks K pc L st (sh, rf, mem) := by
  subst hv
  intro p l e s m args below meth c H locs cells slots mc ms D cid ad0 ad n0 A ls C R hA hx hn hL hst hc hs
  obtain ⟨h1, h2, h3, h4, h5, h6, h7, h8⟩ := id C
  obtain ⟨hK, hP, hD, hS, hg, hX, hZ⟩ := id R
  exact lv_ldc (v := Int32.ofInt v) h1 h2 h7 (h8 _ hw) hd (k p l e s m args below meth c H locs cells slots mc ms D cid ad0 ad n0 A ls C R hA hx hn hL (List.forall_mem_cons.mpr ⟨hr, hst⟩) hc hs)
theorem q_ldcw {index : Nat} {w : Int32} {v : Int} (hd : decode cc pc = .ok (.ldc_w index, 3)) (hw : Cond.constant y.cls index w ∈ q_TB) (hv : w = Int32.ofInt v) (hr : q_in32 v) (k : q_At y cc nL rt d kc ks K (pc + 3) L ((0, v) :: st) (sh, rf, mem)) : q_At y cc nL rt d kc ks K pc L st (sh, rf, mem) := by
  subst hv
  intro p l e s m args below meth c H locs cells slots mc ms D cid ad0 ad n0 A ls C R hA hx hn hL hst hc hs
  obtain ⟨h1, h2, h3, h4, h5, h6, h7, h8⟩ := id C
  obtain ⟨hK, hP, hD, hS, hg, hX, hZ⟩ := id R
  exact lv_ldcw (v := Int32.ofInt v) h1 h2 h7 (h8 _ hw) hd (k p l e s m args below meth c H locs cells slots mc ms D cid ad0 ad n0 A ls C R hA hx hn hL (List.forall_mem_cons.mpr ⟨hr, hst⟩) hc hs)
theorem q_ldc2 {index : Nat} {w : Int64} {v : Int} (hd : decode cc pc = .ok (.ldc2_w index, 3)) (hw : Cond.constantLong y.cls index w ∈ q_TB) (hv : w = Int64.ofInt v) (hr : q_in64 v) (k : q_At y cc nL rt d kc ks K (pc + 3) L ((1, v) :: st) (sh, rf, mem)) : q_At y cc nL rt d kc ks K pc L st (sh, rf, mem) := by
  subst hv
  intro p l e s m args below meth c H locs cells slots mc ms D cid ad0 ad n0 A ls C R hA hx hn hL hst hc hs
  obtain ⟨h1, h2, h3, h4, h5, h6, h7, h8⟩ := id C
  obtain ⟨hK, hP, hD, hS, hg, hX, hZ⟩ := id R
  exact lv_ldc2 (v := Int64.ofInt v) h1 h2 h7 (h8 _ hw) hd (k p l e s m args below meth c H locs cells slots mc ms D cid ad0 ad n0 A ls C R hA hx hn hL (List.forall_mem_cons.mpr ⟨hr, hst⟩) hc hs)
theorem q_iload {i : Nat} {x : Int} (hd : decode cc pc = .ok (.iload i, 2)) (hl : L[i]? = some (0, x)) (k : q_At y cc nL rt d kc ks K (pc + 2) L ((0, x) :: st) (sh, rf, mem)) : q_At y cc nL rt d kc ks K pc L st (sh, rf, mem) := by
  intro p l e s m args below meth c H locs cells slots mc ms D cid ad0 ad n0 A ls C R hA hx hn hL hst hc hs
  obtain ⟨h1, h2, h3, h4, h5, h6, h7, h8⟩ := id C
  obtain ⟨hK, hP, hD, hS, hg, hX, hZ⟩ := id R
  exact lv_iload h1 h2 hd (hL.get hl (Nat.le_of_ble_eq_true rfl)) (k p l e s m args below meth c H locs cells slots mc ms D cid ad0 ad n0 A ls C R hA hx hn hL (List.forall_mem_cons.mpr ⟨hL.ok hl, hst⟩) hc hs)
theorem q_iload_n {j : Fin 4} {i : Nat} {x : Int} (hd : decode cc pc = .ok (.iload_n j, 1)) (hj : (j : Nat) = i) (hl : L[i]? = some (0, x)) (k : q_At y cc nL rt d kc ks K (pc + 1) L ((0, x) :: st) (sh, rf, mem)) : q_At y cc nL rt d kc ks K pc L st (sh, rf, mem) := by
  intro p l e s m args below meth c H locs cells slots mc ms D cid ad0 ad n0 A ls C R hA hx hn hL hst hc hs
  obtain ⟨h1, h2, h3, h4, h5, h6, h7, h8⟩ := id C
  obtain ⟨hK, hP, hD, hS, hg, hX, hZ⟩ := id R
  exact lv_iload_n h1 h2 hd hj (hL.get hl (Nat.le_of_ble_eq_true rfl)) (k p l e s m args below meth c H locs cells slots mc ms D cid ad0 ad n0 A ls C R hA hx hn hL (List.forall_mem_cons.mpr ⟨hL.ok hl, hst⟩) hc hs)
theorem q_lload {i : Nat} {x : Int} (hd : decode cc pc = .ok (.lload i, 2)) (hl : L[i]? = some (1, x)) (k : q_At y cc nL rt d kc ks K (pc + 2) L ((1, x) :: st) (sh, rf, mem)) : q_At y cc nL rt d kc ks K pc L st (sh, rf, mem) := by
  intro p l e s m args below meth c H locs cells slots mc ms D cid ad0 ad n0 A ls C R hA hx hn hL hst hc hs
  obtain ⟨h1, h2, h3, h4, h5, h6, h7, h8⟩ := id C
  obtain ⟨hK, hP, hD, hS, hg, hX, hZ⟩ := id R
  exact lv_lload h1 h2 hd (hL.get hl (Nat.le_of_ble_eq_true rfl)) (k p l e s m args below meth c H locs cells slots mc ms D cid ad0 ad n0 A ls C R hA hx hn hL (List.forall_mem_cons.mpr ⟨hL.ok hl, hst⟩) hc hs)
theorem q_lload_n {j : Fin 4} {i : Nat} {x : Int} (hd : decode cc pc = .ok (.lload_n j, 1)) (hj : (j : Nat) = i) (hl : L[i]? = some (1, x)) (k : q_At y cc nL rt d kc ks K (pc + 1) L ((1, x) :: st) (sh, rf, mem)) : q_At y cc nL rt d kc ks K pc L st (sh, rf, mem) := by
  intro p l e s m args below meth c H locs cells slots mc ms D cid ad0 ad n0 A ls C R hA hx hn hL hst hc hs
  obtain ⟨h1, h2, h3, h4, h5, h6, h7, h8⟩ := id C
  obtain ⟨hK, hP, hD, hS, hg, hX, hZ⟩ := id R
  exact lv_lload_n h1 h2 hd hj (hL.get hl (Nat.le_of_ble_eq_true rfl)) (k p l e s m args below meth c H locs cells slots mc ms D cid ad0 ad n0 A ls C R hA hx hn hL (List.forall_mem_cons.mpr ⟨hL.ok hl, hst⟩) hc hs)
theorem q_aload {i : Nat} {x : Int} (hd : decode cc pc = .ok (.aload i, 2)) (hl : L[i]? = some (2, x)) (k : q_At y cc nL rt d kc ks K (pc + 2) L ((2, x) :: st) (sh, rf, mem)) : q_At y cc nL rt d kc ks K pc L st (sh, rf, mem) := by
  intro p l e s m args below meth c H locs cells slots mc ms D cid ad0 ad n0 A ls C R hA hx hn hL hst hc hs
  obtain ⟨h1, h2, h3, h4, h5, h6, h7, h8⟩ := id C
  obtain ⟨hK, hP, hD, hS, hg, hX, hZ⟩ := id R
  exact lv_aload h1 h2 hd (hL.get hl (Nat.le_of_ble_eq_true rfl)) (k p l e s m args below meth c H locs cells slots mc ms D cid ad0 ad n0 A ls C R hA hx hn hL (List.forall_mem_cons.mpr ⟨hL.ok hl, hst⟩) hc hs)
theorem q_aload_n {j : Fin 4} {i : Nat} {x : Int} (hd : decode cc pc = .ok (.aload_n j, 1)) (hj : (j : Nat) = i) (hl : L[i]? = some (2, x)) (k : q_At y cc nL rt d kc ks K (pc + 1) L ((2, x) :: st) (sh, rf, mem)) : q_At y cc nL rt d kc ks K pc L st (sh, rf, mem) := by
  intro p l e s m args below meth c H locs cells slots mc ms D cid ad0 ad n0 A ls C R hA hx hn hL hst hc hs
  obtain ⟨h1, h2, h3, h4, h5, h6, h7, h8⟩ := id C
  obtain ⟨hK, hP, hD, hS, hg, hX, hZ⟩ := id R
  exact lv_aload_n h1 h2 hd hj (hL.get hl (Nat.le_of_ble_eq_true rfl)) (k p l e s m args below meth c H locs cells slots mc ms D cid ad0 ad n0 A ls C R hA hx hn hL (List.forall_mem_cons.mpr ⟨hL.ok hl, hst⟩) hc hs)
theorem q_istore {i : Nat} {x : Int} (hd : decode cc pc = .ok (.istore i, 2)) (hi : i < nL) (hp : ∀ w, L[i - 1]? = some w → i ≠ 0 → w.1 ≠ 1) (k : q_At y cc nL rt d kc ks K (pc + 2) (L.set i (0, x)) st (sh, rf, mem)) : q_At y cc nL rt d kc ks K pc L ((0, x) :: st) (sh, rf, mem) := by
  intro p l e s m args below meth c H locs cells slots mc ms D cid ad0 ad n0 A ls C R hA hx hn hL hst hc hs
  obtain ⟨h1, h2, h3, h4, h5, h6, h7, h8⟩ := id C
  obtain ⟨hK, hP, hD, hS, hg, hX, hZ⟩ := id R
  obtain ⟨hx0, hst⟩ := List.forall_mem_cons.mp hst
  refine lv_istore h1 h2 hd hL.1 hi rfl (fun ls' hl' => ?_)
  exact k p l e s m args below meth c H locs cells slots mc ms D cid ad0 ad n0 A ls' C R hA hx hn (q_L.set1 (v := (0, x)) hL.2 hx0 hp hl') hst hc hs
theorem q_istore_n {i : Nat} {x : Int} {j : Fin 4} (hd : decode cc pc = .ok (.istore_n j, 1)) (hj : (j : Nat) = i) (hi : i < nL) (hp : ∀ w, L[i - 1]? = some w → i ≠ 0 → w.1 ≠ 1) (k : q_At y cc nL rt d kc ks K (pc + 1) (L.set i (0, x)) st (sh, rf, mem)) : q_At y cc nL rt d kc ks K pc L ((0, x) :: st) (sh, rf, mem) := by
  intro p l e s m args below meth c H locs cells slots mc ms D cid ad0 ad n0 A ls C R hA hx hn hL hst hc hs
  obtain ⟨h1, h2, h3, h4, h5, h6, h7, h8⟩ := id C
  obtain ⟨hK, hP, hD, hS, hg, hX, hZ⟩ := id R
  obtain ⟨hx0, hst⟩ := List.forall_mem_cons.mp hst
  refine lv_istore_n h1 h2 hd hj hL.1 hi rfl (fun ls' hl' => ?_)
  exact k p l e s m args below meth c H locs cells slots mc ms D cid ad0 ad n0 A ls' C R hA hx hn (q_L.set1 (v := (0, x)) hL.2 hx0 hp hl') hst hc hs
theorem q_astore {i : Nat} {x : Int} (hd : decode cc pc = .ok (.astore i, 2)) (hi : i < nL) (hp : ∀ w, L[i - 1]? = some w → i ≠ 0 → w.1 ≠ 1) (k : q_At y cc nL rt d kc ks K (pc + 2) (L.set i (2, x)) st (sh, rf, mem)) : q_At y cc nL rt d kc ks K pc L ((2, x) :: st) (sh, rf, mem) := by
  intro p l e s m args below meth c H locs cells slots mc ms D cid ad0 ad n0 A ls C R hA hx hn hL hst hc hs
  obtain ⟨h1, h2, h3, h4, h5, h6, h7, h8⟩ := id C
  obtain ⟨hK, hP, hD, hS, hg, hX, hZ⟩ := id R
  obtain ⟨hx0, hst⟩ := List.forall_mem_cons.mp hst
  refine lv_astore h1 h2 hd hL.1 hi rfl (fun ls' hl' => ?_)
  exact k p l e s m args below meth c H locs cells slots mc ms D cid ad0 ad n0 A ls' C R hA hx hn (q_L.set1 (v := (2, x)) hL.2 hx0 hp hl') hst hc hs
theorem q_astore_n {i : Nat} {x : Int} {j : Fin 4} (hd : decode cc pc = .ok (.astore_n j, 1)) (hj : (j : Nat) = i) (hi : i < nL) (hp : ∀ w, L[i - 1]? = some w → i ≠ 0 → w.1 ≠ 1) (k : q_At y cc nL rt d kc ks K (pc + 1) (L.set i (2, x)) st (sh, rf, mem)) : q_At y cc nL rt d kc ks K pc L ((2, x) :: st) (sh, rf, mem) := by
  intro p l e s m args below meth c H locs cells slots mc ms D cid ad0 ad n0 A ls C R hA hx hn hL hst hc hs
  obtain ⟨h1, h2, h3, h4, h5, h6, h7, h8⟩ := id C
  obtain ⟨hK, hP, hD, hS, hg, hX, hZ⟩ := id R
  obtain ⟨hx0, hst⟩ := List.forall_mem_cons.mp hst
  refine lv_astore_n h1 h2 hd hj hL.1 hi rfl (fun ls' hl' => ?_)
  exact k p l e s m args below meth c H locs cells slots mc ms D cid ad0 ad n0 A ls' C R hA hx hn (q_L.set1 (v := (2, x)) hL.2 hx0 hp hl') hst hc hs
theorem q_lstore {i : Nat} {x : Int} (hd : decode cc pc = .ok (.lstore i, 2)) (hi : i + 1 < nL) (hp : ∀ w, L[i - 1]? = some w → i ≠ 0 → w.1 ≠ 1) (k : q_At y cc nL rt d kc ks K (pc + 2) ((L.set i (1, x)).set (i + 1) (4, 0)) st (sh, rf, mem)) : q_At y cc nL rt d kc ks K pc L ((1, x) :: st) (sh, rf, mem) := by
  intro p l e s m args below meth c H locs cells slots mc ms D cid ad0 ad n0 A ls C R hA hx hn hL hst hc hs
  obtain ⟨h1, h2, h3, h4, h5, h6, h7, h8⟩ := id C
  obtain ⟨hK, hP, hD, hS, hg, hX, hZ⟩ := id R
  obtain ⟨hx0, hst⟩ := List.forall_mem_cons.mp hst
  refine lv_lstore h1 h2 hd hL.1 hi rfl (fun ls' hl' => ?_)
  exact k p l e s m args below meth c H locs cells slots mc ms D cid ad0 ad n0 A ls' C R hA hx hn (q_L.set2 (v := (1, x)) hL.2 hx0 hp hl') hst hc hs
theorem q_lstore_n {i : Nat} {x : Int} {j : Fin 4} (hd : decode cc pc = .ok (.lstore_n j, 1)) (hj : (j : Nat) = i) (hi : i + 1 < nL) (hp : ∀ w, L[i - 1]? = some w → i ≠ 0 → w.1 ≠ 1) (k : q_At y cc nL rt d kc ks K (pc + 1) ((L.set i (1, x)).set (i + 1) (4, 0)) st (sh, rf, mem)) : q_At y cc nL rt d kc ks K pc L ((1, x) :: st) (sh, rf, mem) := by
  intro p l e s m args below meth c H locs cells slots mc ms D cid ad0 ad n0 A ls C R hA hx hn hL hst hc hs
  obtain ⟨h1, h2, h3, h4, h5, h6, h7, h8⟩ := id C
  obtain ⟨hK, hP, hD, hS, hg, hX, hZ⟩ := id R
  obtain ⟨hx0, hst⟩ := List.forall_mem_cons.mp hst
  refine lv_lstore_n h1 h2 hd hj hL.1 hi rfl (fun ls' hl' => ?_)
  exact k p l e s m args below meth c H locs cells slots mc ms D cid ad0 ad n0 A ls' C R hA hx hn (q_L.set2 (v := (1, x)) hL.2 hx0 hp hl') hst hc hs
theorem q_iinc {i : Nat} {n x : Int} (hd : decode cc pc = .ok (.iinc i n, 3)) (hl : L[i]? = some (0, x)) (hi : i < nL) (hp : ∀ w, L[i - 1]? = some w → i ≠ 0 → w.1 ≠ 1) (k : q_At y cc nL rt d kc ks K (pc + 3) (L.set i (0, q_w32 (x + n))) st (sh, rf, mem)) : q_At y cc nL rt d kc ks K pc L st (sh, rf, mem) := by
  intro p l e s m args below meth c H locs cells slots mc ms D cid ad0 ad n0 A ls C R hA hx hn hL hst hc hs
  obtain ⟨h1, h2, h3, h4, h5, h6, h7, h8⟩ := id C
  obtain ⟨hK, hP, hD, hS, hg, hX, hZ⟩ := id R
  have hm : (i, qe ad (0, x)) ∈ q_lv ad L := q_lv_mem.mpr ⟨_, hl, (Nat.le_of_ble_eq_true rfl), rfl⟩
  obtain ⟨z, hz⟩ := List.getElem?_of_mem hm
  refine lv_iinc (v := Int32.ofInt (q_w32 (x + n))) h1 h2 hd hL.1 (k := z) hz (by rw [q_of32, Int32.ofInt_add]) hi rfl (fun ls' hl' => ?_)
  exact k p l e s m args below meth c H locs cells slots mc ms D cid ad0 ad n0 A ls' C R hA hx hn (q_L.set1 (v := (0, q_w32 (x + n))) hL.2 (q_w32_in _) hp hl') hst hc hs
theorem q_iincW {i : Nat} {n x : Int} (hd : decode cc pc = .ok (.iinc i n, 6)) (hl : L[i]? = some (0, x)) (hi : i < nL) (hp : ∀ w, L[i - 1]? = some w → i ≠ 0 → w.1 ≠ 1) (k : q_At y cc nL rt d kc ks K (pc + 6) (L.set i (0, q_w32 (x + n))) st (sh, rf, mem)) : q_At y cc nL rt d kc ks K pc L st (sh, rf, mem) := by
  intro p l e s m args below meth c H locs cells slots mc ms D cid ad0 ad n0 A ls C R hA hx hn hL hst hc hs
  obtain ⟨h1, h2, h3, h4, h5, h6, h7, h8⟩ := id C
  obtain ⟨hK, hP, hD, hS, hg, hX, hZ⟩ := id R
  have hm : (i, qe ad (0, x)) ∈ q_lv ad L := q_lv_mem.mpr ⟨_, hl, (Nat.le_of_ble_eq_true rfl), rfl⟩
  obtain ⟨z, hz⟩ := List.getElem?_of_mem hm
  refine lv_iincW (v := Int32.ofInt (q_w32 (x + n))) h1 h2 hd hL.1 (k := z) hz (by rw [q_of32, Int32.ofInt_add]) hi rfl (fun ls' hl' => ?_)
  exact k p l e s m args below meth c H locs cells slots mc ms D cid ad0 ad n0 A ls' C R hA hx hn (q_L.set1 (v := (0, q_w32 (x + n))) hL.2 (q_w32_in _) hp hl') hst hc hs
theorem q_iadd {a b : Int} (hd : decode cc pc = .ok (.iadd, 1)) (k : q_At y cc nL rt d kc ks K (pc + 1) L ((0, q_w32 (a + b)) :: st) (sh, rf, mem)) : q_At y cc nL rt d kc ks K pc L ((0, b) :: (0, a) :: st) (sh, rf, mem) := by
  intro p l e s m args below meth c H locs cells slots mc ms D cid ad0 ad n0 A ls C R hA hx hn hL hst hc hs
  obtain ⟨h1, h2, h3, h4, h5, h6, h7, h8⟩ := id C
  obtain ⟨hK, hP, hD, hS, hg, hX, hZ⟩ := id R
  obtain ⟨hb0, hst⟩ := List.forall_mem_cons.mp hst
  obtain ⟨ha0, hst⟩ := List.forall_mem_cons.mp hst
  have z := k p l e s m args below meth c H locs cells slots mc ms D cid ad0 ad n0 A ls C R hA hx hn hL (List.forall_mem_cons.mpr ⟨q_w32_in _, hst⟩) hc hs
  simp only [List.map_cons, qe, q_of32, Int32.ofInt_add] at z
  exact lv_iadd h1 h2 hd z
theorem q_isub {a b : Int} (hd : decode cc pc = .ok (.isub, 1)) (k : q_At y cc nL rt d kc ks K (pc + 1) L ((0, q_w32 (a - b)) :: st) (sh, rf, mem)) : q_At y cc nL rt d kc ks K pc L ((0, b) :: (0, a) :: st) (sh, rf, mem) := by
  intro p l e s m args below meth c H locs cells slots mc ms D cid ad0 ad n0 A ls C R hA hx hn hL hst hc hs
  obtain ⟨h1, h2, h3, h4, h5, h6, h7, h8⟩ := id C
  obtain ⟨hK, hP, hD, hS, hg, hX, hZ⟩ := id R
  obtain ⟨hb0, hst⟩ := List.forall_mem_cons.mp hst
  obtain ⟨ha0, hst⟩ := List.forall_mem_cons.mp hst
  have z := k p l e s m args below meth c H locs cells slots mc ms D cid ad0 ad n0 A ls C R hA hx hn hL (List.forall_mem_cons.mpr ⟨q_w32_in _, hst⟩) hc hs
  simp only [List.map_cons, qe, q_of32, Int32.ofInt_sub] at z
  exact lv_isub h1 h2 hd z
theorem q_imul {a b : Int} (hd : decode cc pc = .ok (.imul, 1)) (k : q_At y cc nL rt d kc ks K (pc + 1) L ((0, q_w32 (a * b)) :: st) (sh, rf, mem)) : q_At y cc nL rt d kc ks K pc L ((0, b) :: (0, a) :: st) (sh, rf, mem) := by
  intro p l e s m args below meth c H locs cells slots mc ms D cid ad0 ad n0 A ls C R hA hx hn hL hst hc hs
  obtain ⟨h1, h2, h3, h4, h5, h6, h7, h8⟩ := id C
  obtain ⟨hK, hP, hD, hS, hg, hX, hZ⟩ := id R
  obtain ⟨hb0, hst⟩ := List.forall_mem_cons.mp hst
  obtain ⟨ha0, hst⟩ := List.forall_mem_cons.mp hst
  have z := k p l e s m args below meth c H locs cells slots mc ms D cid ad0 ad n0 A ls C R hA hx hn hL (List.forall_mem_cons.mpr ⟨q_w32_in _, hst⟩) hc hs
  simp only [List.map_cons, qe, q_of32, Int32.ofInt_mul] at z
  exact lv_imul h1 h2 hd z
theorem q_ladd {a b : Int} (hd : decode cc pc = .ok (.ladd, 1)) (k : q_At y cc nL rt d kc ks K (pc + 1) L ((1, q_w64 (a + b)) :: st) (sh, rf, mem)) : q_At y cc nL rt d kc ks K pc L ((1, b) :: (1, a) :: st) (sh, rf, mem) := by
  intro p l e s m args below meth c H locs cells slots mc ms D cid ad0 ad n0 A ls C R hA hx hn hL hst hc hs
  obtain ⟨h1, h2, h3, h4, h5, h6, h7, h8⟩ := id C
  obtain ⟨hK, hP, hD, hS, hg, hX, hZ⟩ := id R
  obtain ⟨hb0, hst⟩ := List.forall_mem_cons.mp hst
  obtain ⟨ha0, hst⟩ := List.forall_mem_cons.mp hst
  have z := k p l e s m args below meth c H locs cells slots mc ms D cid ad0 ad n0 A ls C R hA hx hn hL (List.forall_mem_cons.mpr ⟨q_w64_in _, hst⟩) hc hs
  simp only [List.map_cons, qe, q_of64, Int64.ofInt_add] at z
  exact lv_ladd h1 h2 hd z
theorem q_lsub {a b : Int} (hd : decode cc pc = .ok (.lsub, 1)) (k : q_At y cc nL rt d kc ks K (pc + 1) L ((1, q_w64 (a - b)) :: st) (sh, rf, mem)) : q_At y cc nL rt d kc ks K pc L ((1, b) :: (1, a) :: st) (sh, rf, mem) := by
  intro p l e s m args below meth c H locs cells slots mc ms D cid ad0 ad n0 A ls C R hA hx hn hL hst hc hs
  obtain ⟨h1, h2, h3, h4, h5, h6, h7, h8⟩ := id C
  obtain ⟨hK, hP, hD, hS, hg, hX, hZ⟩ := id R
  obtain ⟨hb0, hst⟩ := List.forall_mem_cons.mp hst
  obtain ⟨ha0, hst⟩ := List.forall_mem_cons.mp hst
  have z := k p l e s m args below meth c H locs cells slots mc ms D cid ad0 ad n0 A ls C R hA hx hn hL (List.forall_mem_cons.mpr ⟨q_w64_in _, hst⟩) hc hs
  simp only [List.map_cons, qe, q_of64, Int64.ofInt_sub] at z
  exact lv_lsub h1 h2 hd z
theorem q_lmul {a b : Int} (hd : decode cc pc = .ok (.lmul, 1)) (k : q_At y cc nL rt d kc ks K (pc + 1) L ((1, q_w64 (a * b)) :: st) (sh, rf, mem)) : q_At y cc nL rt d kc ks K pc L ((1, b) :: (1, a) :: st) (sh, rf, mem) := by
  intro p l e s m args below meth c H locs cells slots mc ms D cid ad0 ad n0 A ls C R hA hx hn hL hst hc hs
  obtain ⟨h1, h2, h3, h4, h5, h6, h7, h8⟩ := id C
  obtain ⟨hK, hP, hD, hS, hg, hX, hZ⟩ := id R
  obtain ⟨hb0, hst⟩ := List.forall_mem_cons.mp hst
  obtain ⟨ha0, hst⟩ := List.forall_mem_cons.mp hst
  have z := k p l e s m args below meth c H locs cells slots mc ms D cid ad0 ad n0 A ls C R hA hx hn hL (List.forall_mem_cons.mpr ⟨q_w64_in _, hst⟩) hc hs
  simp only [List.map_cons, qe, q_of64, Int64.ofInt_mul] at z
  exact lv_lmul h1 h2 hd z
def q_oiand (a b : Int) : Int := (Int32.ofInt a &&& Int32.ofInt b).toInt
theorem q_iand {a b : Int} (hd : decode cc pc = .ok (.iand, 1))  (k : q_At y cc nL rt d kc ks K (pc + 1) L ((0, q_oiand a b) :: st) (sh, rf, mem)) : q_At y cc nL rt d kc ks K pc L ((0, b) :: (0, a) :: st) (sh, rf, mem) := by
  intro p l e s m args below meth c H locs cells slots mc ms D cid ad0 ad n0 A ls C R hA hx hn hL hst hc hs
  obtain ⟨h1, h2, h3, h4, h5, h6, h7, h8⟩ := id C
  obtain ⟨hK, hP, hD, hS, hg, hX, hZ⟩ := id R
  obtain ⟨hb0, hst⟩ := List.forall_mem_cons.mp hst
  obtain ⟨ha0, hst⟩ := List.forall_mem_cons.mp hst
  have z := k p l e s m args below meth c H locs cells slots mc ms D cid ad0 ad n0 A ls C R hA hx hn hL (List.forall_mem_cons.mpr ⟨q_r32 _, hst⟩) hc hs
  simp only [List.map_cons, qe, q_oiand, Int32.ofInt_toInt] at z
  exact lv_iand h1 h2 hd  z
def q_oior (a b : Int) : Int := (Int32.ofInt a ||| Int32.ofInt b).toInt
theorem q_ior {a b : Int} (hd : decode cc pc = .ok (.ior, 1))  (k : q_At y cc nL rt d kc ks K (pc + 1) L ((0, q_oior a b) :: st) (sh, rf, mem)) : q_At y cc nL rt d kc ks K pc L ((0, b) :: (0, a) :: st) (sh, rf, mem) := by
  intro p l e s m args below meth c H locs cells slots mc ms D cid ad0 ad n0 A ls C R hA hx hn hL hst hc hs
  obtain ⟨h1, h2, h3, h4, h5, h6, h7, h8⟩ := id C
  obtain ⟨hK, hP, hD, hS, hg, hX, hZ⟩ := id R
  obtain ⟨hb0, hst⟩ := List.forall_mem_cons.mp hst
  obtain ⟨ha0, hst⟩ := List.forall_mem_cons.mp hst
  have z := k p l e s m args below meth c H locs cells slots mc ms D cid ad0 ad n0 A ls C R hA hx hn hL (List.forall_mem_cons.mpr ⟨q_r32 _, hst⟩) hc hs
  simp only [List.map_cons, qe, q_oior, Int32.ofInt_toInt] at z
  exact lv_ior h1 h2 hd  z
def q_oixor (a b : Int) : Int := (Int32.ofInt a ^^^ Int32.ofInt b).toInt
theorem q_ixor {a b : Int} (hd : decode cc pc = .ok (.ixor, 1))  (k : q_At y cc nL rt d kc ks K (pc + 1) L ((0, q_oixor a b) :: st) (sh, rf, mem)) : q_At y cc nL rt d kc ks K pc L ((0, b) :: (0, a) :: st) (sh, rf, mem) := by
  intro p l e s m args below meth c H locs cells slots mc ms D cid ad0 ad n0 A ls C R hA hx hn hL hst hc hs
  obtain ⟨h1, h2, h3, h4, h5, h6, h7, h8⟩ := id C
  obtain ⟨hK, hP, hD, hS, hg, hX, hZ⟩ := id R
  obtain ⟨hb0, hst⟩ := List.forall_mem_cons.mp hst
  obtain ⟨ha0, hst⟩ := List.forall_mem_cons.mp hst
  have z := k p l e s m args below meth c H locs cells slots mc ms D cid ad0 ad n0 A ls C R hA hx hn hL (List.forall_mem_cons.mpr ⟨q_r32 _, hst⟩) hc hs
  simp only [List.map_cons, qe, q_oixor, Int32.ofInt_toInt] at z
  exact lv_ixor h1 h2 hd  z
def q_oidiv (a b : Int) : Int := (Int32.ofInt a / Int32.ofInt b).toInt
theorem q_idiv {a b : Int} (hd : decode cc pc = .ok (.idiv, 1)) (hne : b ≠ 0) (k : q_At y cc nL rt d kc ks K (pc + 1) L ((0, q_oidiv a b) :: st) (sh, rf, mem)) : q_At y cc nL rt d kc ks K pc L ((0, b) :: (0, a) :: st) (sh, rf, mem) := by
  intro p l e s m args below meth c H locs cells slots mc ms D cid ad0 ad n0 A ls C R hA hx hn hL hst hc hs
  obtain ⟨h1, h2, h3, h4, h5, h6, h7, h8⟩ := id C
  obtain ⟨hK, hP, hD, hS, hg, hX, hZ⟩ := id R
  obtain ⟨hb0, hst⟩ := List.forall_mem_cons.mp hst
  obtain ⟨ha0, hst⟩ := List.forall_mem_cons.mp hst
  have z := k p l e s m args below meth c H locs cells slots mc ms D cid ad0 ad n0 A ls C R hA hx hn hL (List.forall_mem_cons.mpr ⟨q_r32 _, hst⟩) hc hs
  simp only [List.map_cons, qe, q_oidiv, Int32.ofInt_toInt] at z
  exact lv_idiv h1 h2 hd (fun z => hne ((q_eq32 hb0 q_in0).mp z)) z
def q_oirem (a b : Int) : Int := (Int32.ofInt a - Int32.ofInt a / Int32.ofInt b * Int32.ofInt b).toInt
theorem q_irem {a b : Int} (hd : decode cc pc = .ok (.irem, 1)) (hne : b ≠ 0) (k : q_At y cc nL rt d kc ks K (pc + 1) L ((0, q_oirem a b) :: st) (sh, rf, mem)) : q_At y cc nL rt d kc ks K pc L ((0, b) :: (0, a) :: st) (sh, rf, mem) := by
  intro p l e s m args below meth c H locs cells slots mc ms D cid ad0 ad n0 A ls C R hA hx hn hL hst hc hs
  obtain ⟨h1, h2, h3, h4, h5, h6, h7, h8⟩ := id C
  obtain ⟨hK, hP, hD, hS, hg, hX, hZ⟩ := id R
  obtain ⟨hb0, hst⟩ := List.forall_mem_cons.mp hst
  obtain ⟨ha0, hst⟩ := List.forall_mem_cons.mp hst
  have z := k p l e s m args below meth c H locs cells slots mc ms D cid ad0 ad n0 A ls C R hA hx hn hL (List.forall_mem_cons.mpr ⟨q_r32 _, hst⟩) hc hs
  simp only [List.map_cons, qe, q_oirem, Int32.ofInt_toInt] at z
  exact lv_irem h1 h2 hd (fun z => hne ((q_eq32 hb0 q_in0).mp z)) z
def q_oishl (a b : Int) : Int := (Int32.ofInt a <<< (Int32.ofInt b &&& 31)).toInt
theorem q_ishl {a b : Int} (hd : decode cc pc = .ok (.ishl, 1))  (k : q_At y cc nL rt d kc ks K (pc + 1) L ((0, q_oishl a b) :: st) (sh, rf, mem)) : q_At y cc nL rt d kc ks K pc L ((0, b) :: (0, a) :: st) (sh, rf, mem) := by
  intro p l e s m args below meth c H locs cells slots mc ms D cid ad0 ad n0 A ls C R hA hx hn hL hst hc hs
  obtain ⟨h1, h2, h3, h4, h5, h6, h7, h8⟩ := id C
  obtain ⟨hK, hP, hD, hS, hg, hX, hZ⟩ := id R
  obtain ⟨hb0, hst⟩ := List.forall_mem_cons.mp hst
  obtain ⟨ha0, hst⟩ := List.forall_mem_cons.mp hst
  have z := k p l e s m args below meth c H locs cells slots mc ms D cid ad0 ad n0 A ls C R hA hx hn hL (List.forall_mem_cons.mpr ⟨q_r32 _, hst⟩) hc hs
  simp only [List.map_cons, qe, q_oishl, Int32.ofInt_toInt] at z
  exact lv_ishl h1 h2 hd  z
def q_oishr (a b : Int) : Int := (Int32.ofInt a >>> (Int32.ofInt b &&& 31)).toInt
theorem q_ishr {a b : Int} (hd : decode cc pc = .ok (.ishr, 1))  (k : q_At y cc nL rt d kc ks K (pc + 1) L ((0, q_oishr a b) :: st) (sh, rf, mem)) : q_At y cc nL rt d kc ks K pc L ((0, b) :: (0, a) :: st) (sh, rf, mem) := by
  intro p l e s m args below meth c H locs cells slots mc ms D cid ad0 ad n0 A ls C R hA hx hn hL hst hc hs
  obtain ⟨h1, h2, h3, h4, h5, h6, h7, h8⟩ := id C
  obtain ⟨hK, hP, hD, hS, hg, hX, hZ⟩ := id R
  obtain ⟨hb0, hst⟩ := List.forall_mem_cons.mp hst
  obtain ⟨ha0, hst⟩ := List.forall_mem_cons.mp hst
  have z := k p l e s m args below meth c H locs cells slots mc ms D cid ad0 ad n0 A ls C R hA hx hn hL (List.forall_mem_cons.mpr ⟨q_r32 _, hst⟩) hc hs
  simp only [List.map_cons, qe, q_oishr, Int32.ofInt_toInt] at z
  exact lv_ishr h1 h2 hd  z
def q_oiushr (a b : Int) : Int := ((Int32.ofInt a).toUInt32 >>> ((Int32.ofInt b).toUInt32 &&& Int32.toUInt32 31)).toInt32.toInt
theorem q_iushr {a b : Int} (hd : decode cc pc = .ok (.iushr, 1))  (k : q_At y cc nL rt d kc ks K (pc + 1) L ((0, q_oiushr a b) :: st) (sh, rf, mem)) : q_At y cc nL rt d kc ks K pc L ((0, b) :: (0, a) :: st) (sh, rf, mem) := by
  intro p l e s m args below meth c H locs cells slots mc ms D cid ad0 ad n0 A ls C R hA hx hn hL hst hc hs
  obtain ⟨h1, h2, h3, h4, h5, h6, h7, h8⟩ := id C
  obtain ⟨hK, hP, hD, hS, hg, hX, hZ⟩ := id R
  obtain ⟨hb0, hst⟩ := List.forall_mem_cons.mp hst
  obtain ⟨ha0, hst⟩ := List.forall_mem_cons.mp hst
  have z := k p l e s m args below meth c H locs cells slots mc ms D cid ad0 ad n0 A ls C R hA hx hn hL (List.forall_mem_cons.mpr ⟨q_r32 _, hst⟩) hc hs
  simp only [List.map_cons, qe, q_oiushr, Int32.ofInt_toInt] at z
  exact lv_iushr h1 h2 hd  rfl z
def q_oland (a b : Int) : Int := (Int64.ofInt a &&& Int64.ofInt b).toInt
theorem q_land {a b : Int} (hd : decode cc pc = .ok (.land, 1))  (k : q_At y cc nL rt d kc ks K (pc + 1) L ((1, q_oland a b) :: st) (sh, rf, mem)) : q_At y cc nL rt d kc ks K pc L ((1, b) :: (1, a) :: st) (sh, rf, mem) := by
  intro p l e s m args below meth c H locs cells slots mc ms D cid ad0 ad n0 A ls C R hA hx hn hL hst hc hs
  obtain ⟨h1, h2, h3, h4, h5, h6, h7, h8⟩ := id C
  obtain ⟨hK, hP, hD, hS, hg, hX, hZ⟩ := id R
  obtain ⟨hb0, hst⟩ := List.forall_mem_cons.mp hst
  obtain ⟨ha0, hst⟩ := List.forall_mem_cons.mp hst
  have z := k p l e s m args below meth c H locs cells slots mc ms D cid ad0 ad n0 A ls C R hA hx hn hL (List.forall_mem_cons.mpr ⟨q_r64 _, hst⟩) hc hs
  simp only [List.map_cons, qe, q_oland, Int64.ofInt_toInt] at z
  exact lv_land h1 h2 hd  z
def q_olor (a b : Int) : Int := (Int64.ofInt a ||| Int64.ofInt b).toInt
theorem q_lor {a b : Int} (hd : decode cc pc = .ok (.lor, 1))  (k : q_At y cc nL rt d kc ks K (pc + 1) L ((1, q_olor a b) :: st) (sh, rf, mem)) : q_At y cc nL rt d kc ks K pc L ((1, b) :: (1, a) :: st) (sh, rf, mem) := by
  intro p l e s m args below meth c H locs cells slots mc ms D cid ad0 ad n0 A ls C R hA hx hn hL hst hc hs
  obtain ⟨h1, h2, h3, h4, h5, h6, h7, h8⟩ := id C
  obtain ⟨hK, hP, hD, hS, hg, hX, hZ⟩ := id R
  obtain ⟨hb0, hst⟩ := List.forall_mem_cons.mp hst
  obtain ⟨ha0, hst⟩ := List.forall_mem_cons.mp hst
  have z := k p l e s m args below meth c H locs cells slots mc ms D cid ad0 ad n0 A ls C R hA hx hn hL (List.forall_mem_cons.mpr ⟨q_r64 _, hst⟩) hc hs
  simp only [List.map_cons, qe, q_olor, Int64.ofInt_toInt] at z
  exact lv_lor h1 h2 hd  z
def q_olxor (a b : Int) : Int := (Int64.ofInt a ^^^ Int64.ofInt b).toInt
theorem q_lxor {a b : Int} (hd : decode cc pc = .ok (.lxor, 1))  (k : q_At y cc nL rt d kc ks K (pc + 1) L ((1, q_olxor a b) :: st) (sh, rf, mem)) : q_At y cc nL rt d kc ks K pc L ((1, b) :: (1, a) :: st) (sh, rf, mem) := by
  intro p l e s m args below meth c H locs cells slots mc ms D cid ad0 ad n0 A ls C R hA hx hn hL hst hc hs
  obtain ⟨h1, h2, h3, h4, h5, h6, h7, h8⟩ := id C
  obtain ⟨hK, hP, hD, hS, hg, hX, hZ⟩ := id R
  obtain ⟨hb0, hst⟩ := List.forall_mem_cons.mp hst
  obtain ⟨ha0, hst⟩ := List.forall_mem_cons.mp hst
  have z := k p l e s m args below meth c H locs cells slots mc ms D cid ad0 ad n0 A ls C R hA hx hn hL (List.forall_mem_cons.mpr ⟨q_r64 _, hst⟩) hc hs
  simp only [List.map_cons, qe, q_olxor, Int64.ofInt_toInt] at z
  exact lv_lxor h1 h2 hd  z
def q_olshl (a b : Int) : Int := (Int64.ofInt a <<< ((Int32.ofInt b).toInt64 &&& 63)).toInt
theorem q_lshl {a b : Int} (hd : decode cc pc = .ok (.lshl, 1))  (k : q_At y cc nL rt d kc ks K (pc + 1) L ((1, q_olshl a b) :: st) (sh, rf, mem)) : q_At y cc nL rt d kc ks K pc L ((0, b) :: (1, a) :: st) (sh, rf, mem) := by
  intro p l e s m args below meth c H locs cells slots mc ms D cid ad0 ad n0 A ls C R hA hx hn hL hst hc hs
  obtain ⟨h1, h2, h3, h4, h5, h6, h7, h8⟩ := id C
  obtain ⟨hK, hP, hD, hS, hg, hX, hZ⟩ := id R
  obtain ⟨hb0, hst⟩ := List.forall_mem_cons.mp hst
  obtain ⟨ha0, hst⟩ := List.forall_mem_cons.mp hst
  have z := k p l e s m args below meth c H locs cells slots mc ms D cid ad0 ad n0 A ls C R hA hx hn hL (List.forall_mem_cons.mpr ⟨q_r64 _, hst⟩) hc hs
  simp only [List.map_cons, qe, q_olshl, Int64.ofInt_toInt] at z
  exact lv_lshl h1 h2 hd  rfl z
def q_olushr (a b : Int) : Int := ((Int64.ofInt a).toUInt64 >>> ((Int32.ofInt b).toInt64.toUInt64 &&& Int64.toUInt64 63)).toInt64.toInt
theorem q_lushr {a b : Int} (hd : decode cc pc = .ok (.lushr, 1))  (k : q_At y cc nL rt d kc ks K (pc + 1) L ((1, q_olushr a b) :: st) (sh, rf, mem)) : q_At y cc nL rt d kc ks K pc L ((0, b) :: (1, a) :: st) (sh, rf, mem) := by
  intro p l e s m args below meth c H locs cells slots mc ms D cid ad0 ad n0 A ls C R hA hx hn hL hst hc hs
  obtain ⟨h1, h2, h3, h4, h5, h6, h7, h8⟩ := id C
  obtain ⟨hK, hP, hD, hS, hg, hX, hZ⟩ := id R
  obtain ⟨hb0, hst⟩ := List.forall_mem_cons.mp hst
  obtain ⟨ha0, hst⟩ := List.forall_mem_cons.mp hst
  have z := k p l e s m args below meth c H locs cells slots mc ms D cid ad0 ad n0 A ls C R hA hx hn hL (List.forall_mem_cons.mpr ⟨q_r64 _, hst⟩) hc hs
  simp only [List.map_cons, qe, q_olushr, Int64.ofInt_toInt] at z
  exact lv_lushr h1 h2 hd  rfl z
def q_olcmp (a b : Int) : Int := (lg_cmp (Int64.ofInt a) (Int64.ofInt b)).toInt
theorem q_lcmp {a b : Int} (hd : decode cc pc = .ok (.lcmp, 1))  (k : q_At y cc nL rt d kc ks K (pc + 1) L ((0, q_olcmp a b) :: st) (sh, rf, mem)) : q_At y cc nL rt d kc ks K pc L ((1, b) :: (1, a) :: st) (sh, rf, mem) := by
  intro p l e s m args below meth c H locs cells slots mc ms D cid ad0 ad n0 A ls C R hA hx hn hL hst hc hs
  obtain ⟨h1, h2, h3, h4, h5, h6, h7, h8⟩ := id C
  obtain ⟨hK, hP, hD, hS, hg, hX, hZ⟩ := id R
  obtain ⟨hb0, hst⟩ := List.forall_mem_cons.mp hst
  obtain ⟨ha0, hst⟩ := List.forall_mem_cons.mp hst
  have z := k p l e s m args below meth c H locs cells slots mc ms D cid ad0 ad n0 A ls C R hA hx hn hL (List.forall_mem_cons.mpr ⟨q_r32 _, hst⟩) hc hs
  simp only [List.map_cons, qe, q_olcmp, Int32.ofInt_toInt] at z
  exact W.lcmp h1 h2 hd  z
def q_oineg (a : Int) : Int := (-Int32.ofInt a).toInt
theorem q_ineg {a : Int} (hd : decode cc pc = .ok (.ineg, 1)) (k : q_At y cc nL rt d kc ks K (pc + 1) L ((0, q_oineg a) :: st) (sh, rf, mem)) : q_At y cc nL rt d kc ks K pc L ((0, a) :: st) (sh, rf, mem) := by
  intro p l e s m args below meth c H locs cells slots mc ms D cid ad0 ad n0 A ls C R hA hx hn hL hst hc hs
  obtain ⟨h1, h2, h3, h4, h5, h6, h7, h8⟩ := id C
  obtain ⟨hK, hP, hD, hS, hg, hX, hZ⟩ := id R
  obtain ⟨ha0, hst⟩ := List.forall_mem_cons.mp hst
  have z := k p l e s m args below meth c H locs cells slots mc ms D cid ad0 ad n0 A ls C R hA hx hn hL (List.forall_mem_cons.mpr ⟨q_r32 _, hst⟩) hc hs
  simp only [List.map_cons, qe, q_oineg, Int32.ofInt_toInt] at z
  exact lv_ineg h1 h2 hd z
def q_oi2b (a : Int) : Int := (Int32.ofInt a).toInt8.toInt32.toInt
theorem q_i2b {a : Int} (hd : decode cc pc = .ok (.i2b, 1)) (k : q_At y cc nL rt d kc ks K (pc + 1) L ((0, q_oi2b a) :: st) (sh, rf, mem)) : q_At y cc nL rt d kc ks K pc L ((0, a) :: st) (sh, rf, mem) := by
  intro p l e s m args below meth c H locs cells slots mc ms D cid ad0 ad n0 A ls C R hA hx hn hL hst hc hs
  obtain ⟨h1, h2, h3, h4, h5, h6, h7, h8⟩ := id C
  obtain ⟨hK, hP, hD, hS, hg, hX, hZ⟩ := id R
  obtain ⟨ha0, hst⟩ := List.forall_mem_cons.mp hst
  have z := k p l e s m args below meth c H locs cells slots mc ms D cid ad0 ad n0 A ls C R hA hx hn hL (List.forall_mem_cons.mpr ⟨q_r32 _, hst⟩) hc hs
  simp only [List.map_cons, qe, q_oi2b, Int32.ofInt_toInt] at z
  exact lv_i2b h1 h2 hd rfl z
def q_oi2s (a : Int) : Int := (Int32.ofInt a).toInt16.toInt32.toInt
theorem q_i2s {a : Int} (hd : decode cc pc = .ok (.i2s, 1)) (k : q_At y cc nL rt d kc ks K (pc + 1) L ((0, q_oi2s a) :: st) (sh, rf, mem)) : q_At y cc nL rt d kc ks K pc L ((0, a) :: st) (sh, rf, mem) := by
  intro p l e s m args below meth c H locs cells slots mc ms D cid ad0 ad n0 A ls C R hA hx hn hL hst hc hs
  obtain ⟨h1, h2, h3, h4, h5, h6, h7, h8⟩ := id C
  obtain ⟨hK, hP, hD, hS, hg, hX, hZ⟩ := id R
  obtain ⟨ha0, hst⟩ := List.forall_mem_cons.mp hst
  have z := k p l e s m args below meth c H locs cells slots mc ms D cid ad0 ad n0 A ls C R hA hx hn hL (List.forall_mem_cons.mpr ⟨q_r32 _, hst⟩) hc hs
  simp only [List.map_cons, qe, q_oi2s, Int32.ofInt_toInt] at z
  exact lv_i2s h1 h2 hd rfl z
def q_ol2i (a : Int) : Int := (Int64.ofInt a).toInt32.toInt
theorem q_l2i {a : Int} (hd : decode cc pc = .ok (.l2i, 1)) (k : q_At y cc nL rt d kc ks K (pc + 1) L ((0, q_ol2i a) :: st) (sh, rf, mem)) : q_At y cc nL rt d kc ks K pc L ((1, a) :: st) (sh, rf, mem) := by
  intro p l e s m args below meth c H locs cells slots mc ms D cid ad0 ad n0 A ls C R hA hx hn hL hst hc hs
  obtain ⟨h1, h2, h3, h4, h5, h6, h7, h8⟩ := id C
  obtain ⟨hK, hP, hD, hS, hg, hX, hZ⟩ := id R
  obtain ⟨ha0, hst⟩ := List.forall_mem_cons.mp hst
  have z := k p l e s m args below meth c H locs cells slots mc ms D cid ad0 ad n0 A ls C R hA hx hn hL (List.forall_mem_cons.mpr ⟨q_r32 _, hst⟩) hc hs
  simp only [List.map_cons, qe, q_ol2i, Int32.ofInt_toInt] at z
  exact lv_l2i h1 h2 hd rfl z
theorem q_i2l {a : Int} (hd : decode cc pc = .ok (.i2l, 1)) (k : q_At y cc nL rt d kc ks K (pc + 1) L ((1, a) :: st) (sh, rf, mem)) : q_At y cc nL rt d kc ks K pc L ((0, a) :: st) (sh, rf, mem) := by
  intro p l e s m args below meth c H locs cells slots mc ms D cid ad0 ad n0 A ls C R hA hx hn hL hst hc hs
  obtain ⟨h1, h2, h3, h4, h5, h6, h7, h8⟩ := id C
  obtain ⟨hK, hP, hD, hS, hg, hX, hZ⟩ := id R
  obtain ⟨ha0, hst⟩ := List.forall_mem_cons.mp hst
  have z := k p l e s m args below meth c H locs cells slots mc ms D cid ad0 ad n0 A ls C R hA hx hn hL (List.forall_mem_cons.mpr ⟨⟨by have := ha0.1; simp only at this; omega, by have := ha0.2; simp only at this; omega⟩, hst⟩) hc hs
  exact lv_i2l (v := Int64.ofInt a) h1 h2 hd (Int64.toInt_inj.mp (by rw [Int32.toInt_toInt64, q_t32 ha0, q_t64 ⟨by have := ha0.1; simp only at this; omega, by have := ha0.2; simp only at this; omega⟩])) z
theorem q_dup {v : qv} (hd : decode cc pc = .ok (.dup, 1)) (hv : v.1 ≠ 1) (k : q_At y cc nL rt d kc ks K (pc + 1) L (v :: v :: st) (sh, rf, mem)) : q_At y cc nL rt d kc ks K pc L (v :: st) (sh, rf, mem) := by
  intro p l e s m args below meth c H locs cells slots mc ms D cid ad0 ad n0 A ls C R hA hx hn hL hst hc hs
  obtain ⟨h1, h2, h3, h4, h5, h6, h7, h8⟩ := id C
  obtain ⟨hK, hP, hD, hS, hg, hX, hZ⟩ := id R
  obtain ⟨ha0, hst⟩ := List.forall_mem_cons.mp hst
  exact lv_dup h1 h2 hd (by rw [q_cat, if_neg hv]) (k p l e s m args below meth c H locs cells slots mc ms D cid ad0 ad n0 A ls C R hA hx hn hL (List.forall_mem_cons.mpr ⟨ha0, List.forall_mem_cons.mpr ⟨ha0, hst⟩⟩) hc hs)
theorem q_pop {v : qv} (hd : decode cc pc = .ok (.pop, 1)) (hv : v.1 ≠ 1) (k : q_At y cc nL rt d kc ks K (pc + 1) L st (sh, rf, mem)) : q_At y cc nL rt d kc ks K pc L (v :: st) (sh, rf, mem) := by
  intro p l e s m args below meth c H locs cells slots mc ms D cid ad0 ad n0 A ls C R hA hx hn hL hst hc hs
  obtain ⟨h1, h2, h3, h4, h5, h6, h7, h8⟩ := id C
  obtain ⟨hK, hP, hD, hS, hg, hX, hZ⟩ := id R
  obtain ⟨ha0, hst⟩ := List.forall_mem_cons.mp hst
  exact lv_pop h1 h2 hd (by rw [q_cat, if_neg hv]) (k p l e s m args below meth c H locs cells slots mc ms D cid ad0 ad n0 A ls C R hA hx hn hL hst hc hs)
theorem q_dup_x1 {v w : qv} (hd : decode cc pc = .ok (.dup_x1, 1)) (hv : v.1 ≠ 1) (hw : w.1 ≠ 1) (k : q_At y cc nL rt d kc ks K (pc + 1) L (v :: w :: v :: st) (sh, rf, mem)) : q_At y cc nL rt d kc ks K pc L (v :: w :: st) (sh, rf, mem) := by
  intro p l e s m args below meth c H locs cells slots mc ms D cid ad0 ad n0 A ls C R hA hx hn hL hst hc hs
  obtain ⟨h1, h2, h3, h4, h5, h6, h7, h8⟩ := id C
  obtain ⟨hK, hP, hD, hS, hg, hX, hZ⟩ := id R
  obtain ⟨hb0, hst⟩ := List.forall_mem_cons.mp hst
  obtain ⟨ha0, hst⟩ := List.forall_mem_cons.mp hst
  exact lv_dup_x1 h1 h2 hd (by rw [q_cat, if_neg hv]) (by rw [q_cat, if_neg hw]) (k p l e s m args below meth c H locs cells slots mc ms D cid ad0 ad n0 A ls C R hA hx hn hL (List.forall_mem_cons.mpr ⟨hb0, List.forall_mem_cons.mpr ⟨ha0, List.forall_mem_cons.mpr ⟨hb0, hst⟩⟩⟩) hc hs)
theorem q_dup2 {v w : qv} (hd : decode cc pc = .ok (.dup2, 1)) (hv : v.1 ≠ 1) (hw : w.1 ≠ 1) (k : q_At y cc nL rt d kc ks K (pc + 1) L (v :: w :: v :: w :: st) (sh, rf, mem)) : q_At y cc nL rt d kc ks K pc L (v :: w :: st) (sh, rf, mem) := by
  intro p l e s m args below meth c H locs cells slots mc ms D cid ad0 ad n0 A ls C R hA hx hn hL hst hc hs
  obtain ⟨h1, h2, h3, h4, h5, h6, h7, h8⟩ := id C
  obtain ⟨hK, hP, hD, hS, hg, hX, hZ⟩ := id R
  obtain ⟨hb0, hst⟩ := List.forall_mem_cons.mp hst
  obtain ⟨ha0, hst⟩ := List.forall_mem_cons.mp hst
  exact lv_dup2_11 h1 h2 hd (by rw [q_cat, if_neg hv]) (by rw [q_cat, if_neg hw]) (k p l e s m args below meth c H locs cells slots mc ms D cid ad0 ad n0 A ls C R hA hx hn hL (List.forall_mem_cons.mpr ⟨hb0, List.forall_mem_cons.mpr ⟨ha0, List.forall_mem_cons.mpr ⟨hb0, List.forall_mem_cons.mpr ⟨ha0, hst⟩⟩⟩⟩) hc hs)
theorem q_if_eq {a : Int} {off : Int} {tgt : Nat} (hd : decode cc pc = .ok (.ifCond .eq off, 3)) (ht : (pc : Int) + off = (tgt : Int)) (kt : a = 0 → q_At y cc nL rt d kc ks K tgt L st (sh, rf, mem)) (kf : ¬ (a = 0) → q_At y cc nL rt d kc ks K (pc + 3) L st (sh, rf, mem)) : q_At y cc nL rt d kc ks K pc L ((0, a) :: st) (sh, rf, mem) := by
  intro p l e s m args below meth c H locs cells slots mc ms D cid ad0 ad n0 A ls C R hA hx hn hL hst hc hs
  obtain ⟨h1, h2, h3, h4, h5, h6, h7, h8⟩ := id C
  obtain ⟨hK, hP, hD, hS, hg, hX, hZ⟩ := id R
  obtain ⟨ha0, hst⟩ := List.forall_mem_cons.mp hst
  have hb0 : q_in32 0 := q_in0
  exact lv_if_eq h1 h2 hd ht (fun z => kt ((q_eq32 ha0 hb0).mp z) p l e s m args below meth c H locs cells slots mc ms D cid ad0 ad n0 A ls C R hA hx hn hL hst hc hs) (fun z => kf (fun q => z ((q_eq32 ha0 hb0).mpr q)) p l e s m args below meth c H locs cells slots mc ms D cid ad0 ad n0 A ls C R hA hx hn hL hst hc hs)
theorem q_icmp_eq {a b : Int} {off : Int} {tgt : Nat} (hd : decode cc pc = .ok (.if_icmp .eq off, 3)) (ht : (pc : Int) + off = (tgt : Int)) (kt : a = b → q_At y cc nL rt d kc ks K tgt L st (sh, rf, mem)) (kf : ¬ (a = b) → q_At y cc nL rt d kc ks K (pc + 3) L st (sh, rf, mem)) : q_At y cc nL rt d kc ks K pc L ((0, b) :: (0, a) :: st) (sh, rf, mem) := by
  intro p l e s m args below meth c H locs cells slots mc ms D cid ad0 ad n0 A ls C R hA hx hn hL hst hc hs
  obtain ⟨h1, h2, h3, h4, h5, h6, h7, h8⟩ := id C
  obtain ⟨hK, hP, hD, hS, hg, hX, hZ⟩ := id R
  obtain ⟨hb0, hst⟩ := List.forall_mem_cons.mp hst
  obtain ⟨ha0, hst⟩ := List.forall_mem_cons.mp hst
  exact lv_icmp_eq h1 h2 hd ht (fun z => kt ((q_eq32 ha0 hb0).mp z) p l e s m args below meth c H locs cells slots mc ms D cid ad0 ad n0 A ls C R hA hx hn hL hst hc hs) (fun z => kf (fun q => z ((q_eq32 ha0 hb0).mpr q)) p l e s m args below meth c H locs cells slots mc ms D cid ad0 ad n0 A ls C R hA hx hn hL hst hc hs)
theorem q_if_ne {a : Int} {off : Int} {tgt : Nat} (hd : decode cc pc = .ok (.ifCond .ne off, 3)) (ht : (pc : Int) + off = (tgt : Int)) (kt : a ≠ 0 → q_At y cc nL rt d kc ks K tgt L st (sh, rf, mem)) (kf : ¬ (a ≠ 0) → q_At y cc nL rt d kc ks K (pc + 3) L st (sh, rf, mem)) : q_At y cc nL rt d kc ks K pc L ((0, a) :: st) (sh, rf, mem) := by
  intro p l e s m args below meth c H locs cells slots mc ms D cid ad0 ad n0 A ls C R hA hx hn hL hst hc hs
  obtain ⟨h1, h2, h3, h4, h5, h6, h7, h8⟩ := id C
  obtain ⟨hK, hP, hD, hS, hg, hX, hZ⟩ := id R
  obtain ⟨ha0, hst⟩ := List.forall_mem_cons.mp hst
  have hb0 : q_in32 0 := q_in0
  exact lv_if_ne h1 h2 hd ht (fun z => kt (fun q => z ((q_eq32 ha0 hb0).mpr q)) p l e s m args below meth c H locs cells slots mc ms D cid ad0 ad n0 A ls C R hA hx hn hL hst hc hs) (fun z => kf (fun q => q ((q_eq32 ha0 hb0).mp z)) p l e s m args below meth c H locs cells slots mc ms D cid ad0 ad n0 A ls C R hA hx hn hL hst hc hs)
theorem q_icmp_ne {a b : Int} {off : Int} {tgt : Nat} (hd : decode cc pc = .ok (.if_icmp .ne off, 3)) (ht : (pc : Int) + off = (tgt : Int)) (kt : a ≠ b → q_At y cc nL rt d kc ks K tgt L st (sh, rf, mem)) (kf : ¬ (a ≠ b) → q_At y cc nL rt d kc ks K (pc + 3) L st (sh, rf, mem)) : q_At y cc nL rt d kc ks K pc L ((0, b) :: (0, a) :: st) (sh, rf, mem) := by
  intro p l e s m args below meth c H locs cells slots mc ms D cid ad0 ad n0 A ls C R hA hx hn hL hst hc hs
  obtain ⟨h1, h2, h3, h4, h5, h6, h7, h8⟩ := id C
  obtain ⟨hK, hP, hD, hS, hg, hX, hZ⟩ := id R
  obtain ⟨hb0, hst⟩ := List.forall_mem_cons.mp hst
  obtain ⟨ha0, hst⟩ := List.forall_mem_cons.mp hst
  exact lv_icmp_ne h1 h2 hd ht (fun z => kt (fun q => z ((q_eq32 ha0 hb0).mpr q)) p l e s m args below meth c H locs cells slots mc ms D cid ad0 ad n0 A ls C R hA hx hn hL hst hc hs) (fun z => kf (fun q => q ((q_eq32 ha0 hb0).mp z)) p l e s m args below meth c H locs cells slots mc ms D cid ad0 ad n0 A ls C R hA hx hn hL hst hc hs)
theorem q_if_lt {a : Int} {off : Int} {tgt : Nat} (hd : decode cc pc = .ok (.ifCond .lt off, 3)) (ht : (pc : Int) + off = (tgt : Int)) (kt : a < 0 → q_At y cc nL rt d kc ks K tgt L st (sh, rf, mem)) (kf : ¬ (a < 0) → q_At y cc nL rt d kc ks K (pc + 3) L st (sh, rf, mem)) : q_At y cc nL rt d kc ks K pc L ((0, a) :: st) (sh, rf, mem) := by
  intro p l e s m args below meth c H locs cells slots mc ms D cid ad0 ad n0 A ls C R hA hx hn hL hst hc hs
  obtain ⟨h1, h2, h3, h4, h5, h6, h7, h8⟩ := id C
  obtain ⟨hK, hP, hD, hS, hg, hX, hZ⟩ := id R
  obtain ⟨ha0, hst⟩ := List.forall_mem_cons.mp hst
  have hb0 : q_in32 0 := q_in0
  exact lv_if_lt h1 h2 hd ht (fun z => kt ((q_lt32 ha0 hb0).mp z) p l e s m args below meth c H locs cells slots mc ms D cid ad0 ad n0 A ls C R hA hx hn hL hst hc hs) (fun z => kf (fun q => z ((q_lt32 ha0 hb0).mpr q)) p l e s m args below meth c H locs cells slots mc ms D cid ad0 ad n0 A ls C R hA hx hn hL hst hc hs)
theorem q_icmp_lt {a b : Int} {off : Int} {tgt : Nat} (hd : decode cc pc = .ok (.if_icmp .lt off, 3)) (ht : (pc : Int) + off = (tgt : Int)) (kt : a < b → q_At y cc nL rt d kc ks K tgt L st (sh, rf, mem)) (kf : ¬ (a < b) → q_At y cc nL rt d kc ks K (pc + 3) L st (sh, rf, mem)) : q_At y cc nL rt d kc ks K pc L ((0, b) :: (0, a) :: st) (sh, rf, mem) := by
  intro p l e s m args below meth c H locs cells slots mc ms D cid ad0 ad n0 A ls C R hA hx hn hL hst hc hs
  obtain ⟨h1, h2, h3, h4, h5, h6, h7, h8⟩ := id C
  obtain ⟨hK, hP, hD, hS, hg, hX, hZ⟩ := id R
  obtain ⟨hb0, hst⟩ := List.forall_mem_cons.mp hst
  obtain ⟨ha0, hst⟩ := List.forall_mem_cons.mp hst
  exact lv_icmp_lt h1 h2 hd ht (fun z => kt ((q_lt32 ha0 hb0).mp z) p l e s m args below meth c H locs cells slots mc ms D cid ad0 ad n0 A ls C R hA hx hn hL hst hc hs) (fun z => kf (fun q => z ((q_lt32 ha0 hb0).mpr q)) p l e s m args below meth c H locs cells slots mc ms D cid ad0 ad n0 A ls C R hA hx hn hL hst hc hs)
theorem q_if_ge {a : Int} {off : Int} {tgt : Nat} (hd : decode cc pc = .ok (.ifCond .ge off, 3)) (ht : (pc : Int) + off = (tgt : Int)) (kt : 0 ≤ a → q_At y cc nL rt d kc ks K tgt L st (sh, rf, mem)) (kf : ¬ (0 ≤ a) → q_At y cc nL rt d kc ks K (pc + 3) L st (sh, rf, mem)) : q_At y cc nL rt d kc ks K pc L ((0, a) :: st) (sh, rf, mem) := by
  intro p l e s m args below meth c H locs cells slots mc ms D cid ad0 ad n0 A ls C R hA hx hn hL hst hc hs
  obtain ⟨h1, h2, h3, h4, h5, h6, h7, h8⟩ := id C
  obtain ⟨hK, hP, hD, hS, hg, hX, hZ⟩ := id R
  obtain ⟨ha0, hst⟩ := List.forall_mem_cons.mp hst
  have hb0 : q_in32 0 := q_in0
  exact lv_if_ge h1 h2 hd ht (fun z => kt ((q_le32 hb0 ha0).mp z) p l e s m args below meth c H locs cells slots mc ms D cid ad0 ad n0 A ls C R hA hx hn hL hst hc hs) (fun z => kf (fun q => z ((q_le32 hb0 ha0).mpr q)) p l e s m args below meth c H locs cells slots mc ms D cid ad0 ad n0 A ls C R hA hx hn hL hst hc hs)
theorem q_icmp_ge {a b : Int} {off : Int} {tgt : Nat} (hd : decode cc pc = .ok (.if_icmp .ge off, 3)) (ht : (pc : Int) + off = (tgt : Int)) (kt : b ≤ a → q_At y cc nL rt d kc ks K tgt L st (sh, rf, mem)) (kf : ¬ (b ≤ a) → q_At y cc nL rt d kc ks K (pc + 3) L st (sh, rf, mem)) : q_At y cc nL rt d kc ks K pc L ((0, b) :: (0, a) :: st) (sh, rf, mem) := by
  intro p l e s m args below meth c H locs cells slots mc ms D cid ad0 ad n0 A ls C R hA hx hn hL hst hc hs
  obtain ⟨h1, h2, h3, h4, h5, h6, h7, h8⟩ := id C
  obtain ⟨hK, hP, hD, hS, hg, hX, hZ⟩ := id R
  obtain ⟨hb0, hst⟩ := List.forall_mem_cons.mp hst
  obtain ⟨ha0, hst⟩ := List.forall_mem_cons.mp hst
  exact lv_icmp_ge h1 h2 hd ht (fun z => kt ((q_le32 hb0 ha0).mp z) p l e s m args below meth c H locs cells slots mc ms D cid ad0 ad n0 A ls C R hA hx hn hL hst hc hs) (fun z => kf (fun q => z ((q_le32 hb0 ha0).mpr q)) p l e s m args below meth c H locs cells slots mc ms D cid ad0 ad n0 A ls C R hA hx hn hL hst hc hs)
theorem q_if_gt {a : Int} {off : Int} {tgt : Nat} (hd : decode cc pc = .ok (.ifCond .gt off, 3)) (ht : (pc : Int) + off = (tgt : Int)) (kt : 0 < a → q_At y cc nL rt d kc ks K tgt L st (sh, rf, mem)) (kf : ¬ (0 < a) → q_At y cc nL rt d kc ks K (pc + 3) L st (sh, rf, mem)) : q_At y cc nL rt d kc ks K pc L ((0, a) :: st) (sh, rf, mem) := by
  intro p l e s m args below meth c H locs cells slots mc ms D cid ad0 ad n0 A ls C R hA hx hn hL hst hc hs
  obtain ⟨h1, h2, h3, h4, h5, h6, h7, h8⟩ := id C
  obtain ⟨hK, hP, hD, hS, hg, hX, hZ⟩ := id R
  obtain ⟨ha0, hst⟩ := List.forall_mem_cons.mp hst
  have hb0 : q_in32 0 := q_in0
  exact lv_if_gt h1 h2 hd ht (fun z => kt ((q_lt32 hb0 ha0).mp z) p l e s m args below meth c H locs cells slots mc ms D cid ad0 ad n0 A ls C R hA hx hn hL hst hc hs) (fun z => kf (fun q => z ((q_lt32 hb0 ha0).mpr q)) p l e s m args below meth c H locs cells slots mc ms D cid ad0 ad n0 A ls C R hA hx hn hL hst hc hs)
theorem q_icmp_gt {a b : Int} {off : Int} {tgt : Nat} (hd : decode cc pc = .ok (.if_icmp .gt off, 3)) (ht : (pc : Int) + off = (tgt : Int)) (kt : b < a → q_At y cc nL rt d kc ks K tgt L st (sh, rf, mem)) (kf : ¬ (b < a) → q_At y cc nL rt d kc ks K (pc + 3) L st (sh, rf, mem)) : q_At y cc nL rt d kc ks K pc L ((0, b) :: (0, a) :: st) (sh, rf, mem) := by
  intro p l e s m args below meth c H locs cells slots mc ms D cid ad0 ad n0 A ls C R hA hx hn hL hst hc hs
  obtain ⟨h1, h2, h3, h4, h5, h6, h7, h8⟩ := id C
  obtain ⟨hK, hP, hD, hS, hg, hX, hZ⟩ := id R
  obtain ⟨hb0, hst⟩ := List.forall_mem_cons.mp hst
  obtain ⟨ha0, hst⟩ := List.forall_mem_cons.mp hst
  exact lv_icmp_gt h1 h2 hd ht (fun z => kt ((q_lt32 hb0 ha0).mp z) p l e s m args below meth c H locs cells slots mc ms D cid ad0 ad n0 A ls C R hA hx hn hL hst hc hs) (fun z => kf (fun q => z ((q_lt32 hb0 ha0).mpr q)) p l e s m args below meth c H locs cells slots mc ms D cid ad0 ad n0 A ls C R hA hx hn hL hst hc hs)
theorem q_if_le {a : Int} {off : Int} {tgt : Nat} (hd : decode cc pc = .ok (.ifCond .le off, 3)) (ht : (pc : Int) + off = (tgt : Int)) (kt : a ≤ 0 → q_At y cc nL rt d kc ks K tgt L st (sh, rf, mem)) (kf : ¬ (a ≤ 0) → q_At y cc nL rt d kc ks K (pc + 3) L st (sh, rf, mem)) : q_At y cc nL rt d kc ks K pc L ((0, a) :: st) (sh, rf, mem) := by
  intro p l e s m args below meth c H locs cells slots mc ms D cid ad0 ad n0 A ls C R hA hx hn hL hst hc hs
  obtain ⟨h1, h2, h3, h4, h5, h6, h7, h8⟩ := id C
  obtain ⟨hK, hP, hD, hS, hg, hX, hZ⟩ := id R
  obtain ⟨ha0, hst⟩ := List.forall_mem_cons.mp hst
  have hb0 : q_in32 0 := q_in0
  exact lv_if_le h1 h2 hd ht (fun z => kt ((q_le32 ha0 hb0).mp z) p l e s m args below meth c H locs cells slots mc ms D cid ad0 ad n0 A ls C R hA hx hn hL hst hc hs) (fun z => kf (fun q => z ((q_le32 ha0 hb0).mpr q)) p l e s m args below meth c H locs cells slots mc ms D cid ad0 ad n0 A ls C R hA hx hn hL hst hc hs)
theorem q_icmp_le {a b : Int} {off : Int} {tgt : Nat} (hd : decode cc pc = .ok (.if_icmp .le off, 3)) (ht : (pc : Int) + off = (tgt : Int)) (kt : a ≤ b → q_At y cc nL rt d kc ks K tgt L st (sh, rf, mem)) (kf : ¬ (a ≤ b) → q_At y cc nL rt d kc ks K (pc + 3) L st (sh, rf, mem)) : q_At y cc nL rt d kc ks K pc L ((0, b) :: (0, a) :: st) (sh, rf, mem) := by
  intro p l e s m args below meth c H locs cells slots mc ms D cid ad0 ad n0 A ls C R hA hx hn hL hst hc hs
  obtain ⟨h1, h2, h3, h4, h5, h6, h7, h8⟩ := id C
  obtain ⟨hK, hP, hD, hS, hg, hX, hZ⟩ := id R
  obtain ⟨hb0, hst⟩ := List.forall_mem_cons.mp hst
  obtain ⟨ha0, hst⟩ := List.forall_mem_cons.mp hst
  exact lv_icmp_le h1 h2 hd ht (fun z => kt ((q_le32 ha0 hb0).mp z) p l e s m args below meth c H locs cells slots mc ms D cid ad0 ad n0 A ls C R hA hx hn hL hst hc hs) (fun z => kf (fun q => z ((q_le32 ha0 hb0).mpr q)) p l e s m args below meth c H locs cells slots mc ms D cid ad0 ad n0 A ls C R hA hx hn hL hst hc hs)
theorem q_goto {off : Int} {tgt : Nat} (hd : decode cc pc = .ok (.goto off, 3)) (ht : (pc : Int) + off = (tgt : Int)) (k : q_At y cc nL rt d kc ks K tgt L st (sh, rf, mem)) : q_At y cc nL rt d kc ks K pc L st (sh, rf, mem) := by
  intro p l e s m args below meth c H locs cells slots mc ms D cid ad0 ad n0 A ls C R hA hx hn hL hst hc hs
  obtain ⟨h1, h2, h3, h4, h5, h6, h7, h8⟩ := id C
  obtain ⟨hK, hP, hD, hS, hg, hX, hZ⟩ := id R
  exact lv_goto h1 h2 hd ht (k p l e s m args below meth c H locs cells slots mc ms D cid ad0 ad n0 A ls C R hA hx hn hL hst hc hs)
theorem q_tabOut {a dflt lo hi : Int} {offs : Array Int} {len tgt : Nat} (hd : decode cc pc = .ok (.tableswitch dflt lo hi offs, len)) (h : a < lo ∨ hi < a) (ht : (pc : Int) + dflt = (tgt : Int)) (k : q_At y cc nL rt d kc ks K tgt L st (sh, rf, mem)) : q_At y cc nL rt d kc ks K pc L ((0, a) :: st) (sh, rf, mem) := by
  intro p l e s m args below meth c H locs cells slots mc ms D cid ad0 ad n0 A ls C R hA hx hn hL hst hc hs
  obtain ⟨h1, h2, h3, h4, h5, h6, h7, h8⟩ := id C
  obtain ⟨hK, hP, hD, hS, hg, hX, hZ⟩ := id R
  obtain ⟨ha0, hst⟩ := List.forall_mem_cons.mp hst
  exact lv_tableOut h1 h2 hd (by rw [q_t32 ha0]; exact h) ht (k p l e s m args below meth c H locs cells slots mc ms D cid ad0 ad n0 A ls C R hA hx hn hL hst hc hs)
theorem q_tabIn {a dflt lo hi off : Int} {offs : Array Int} {len tgt : Nat} (hd : decode cc pc = .ok (.tableswitch dflt lo hi offs, len)) (g1 : lo ≤ a) (g2 : a ≤ hi) (ho : offs[(a - lo).toNat]? = some off) (ht : (pc : Int) + off = (tgt : Int)) (k : q_At y cc nL rt d kc ks K tgt L st (sh, rf, mem)) : q_At y cc nL rt d kc ks K pc L ((0, a) :: st) (sh, rf, mem) := by
  intro p l e s m args below meth c H locs cells slots mc ms D cid ad0 ad n0 A ls C R hA hx hn hL hst hc hs
  obtain ⟨h1, h2, h3, h4, h5, h6, h7, h8⟩ := id C
  obtain ⟨hK, hP, hD, hS, hg, hX, hZ⟩ := id R
  obtain ⟨ha0, hst⟩ := List.forall_mem_cons.mp hst
  exact lv_tableIn h1 h2 hd (by rw [q_t32 ha0]; omega) (by rw [q_t32 ha0]; omega) (by rw [q_t32 ha0]; exact ho) ht (k p l e s m args below meth c H locs cells slots mc ms D cid ad0 ad n0 A ls C R hA hx hn hL hst hc hs)
theorem q_look {a dflt off : Int} {ps : Array (Int × Int)} {len tgt : Nat} (hd : decode cc pc = .ok (.lookupswitch dflt ps, len)) (hp : (ps.toList.zip (ps.toList.drop 1)).all (fun (a, next) => a.1 < next.1) = true) (ho : Op.lookupswitch.offset ps.toList dflt a = off) (ht : (pc : Int) + off = (tgt : Int)) (k : q_At y cc nL rt d kc ks K tgt L st (sh, rf, mem)) : q_At y cc nL rt d kc ks K pc L ((0, a) :: st) (sh, rf, mem) := by
  intro p l e s m args below meth c H locs cells slots mc ms D cid ad0 ad n0 A ls C R hA hx hn hL hst hc hs
  obtain ⟨h1, h2, h3, h4, h5, h6, h7, h8⟩ := id C
  obtain ⟨hK, hP, hD, hS, hg, hX, hZ⟩ := id R
  obtain ⟨ha0, hst⟩ := List.forall_mem_cons.mp hst
  exact lv_lookup h1 h2 hd hp (by rw [q_t32 ha0]; exact ho) ht (k p l e s m args below meth c H locs cells slots mc ms D cid ad0 ad n0 A ls C R hA hx hn hL hst hc hs)
theorem q_forget {L' : List qv} (hl : ∀ (i : Nat) (v : qv), L'[i]? = some v → v.1 < 4 → L[i]? = some v) (hk : ∀ v ∈ L', v.1 < 4 ∨ v = (4, 0)) (k : q_At y cc nL rt d kc ks K pc L' st (sh, rf, mem)) : q_At y cc nL rt d kc ks K pc L st (sh, rf, mem) := by
  intro p l e s m args below meth c H locs cells slots mc ms D cid ad0 ad n0 A ls C R hA hx hn hL hst hc hs
  obtain ⟨h1, h2, h3, h4, h5, h6, h7, h8⟩ := id C
  obtain ⟨hK, hP, hD, hS, hg, hX, hZ⟩ := id R
  refine k p l e s m args below meth c H locs cells slots mc ms D cid ad0 ad n0 A ls C R hA hx hn ⟨q_lv_mono hL.1 (fun q hq => ?_), fun v hv => ?_⟩ hst hc hs
  · obtain ⟨i, w⟩ := q
    obtain ⟨v, g1, g2, rfl⟩ := q_lv_mem.mp hq
    exact q_lv_mem.mpr ⟨v, hl i v g1 g2, g2, rfl⟩
  · rcases hk v hv with g | g
    · obtain ⟨i, hi⟩ := List.getElem?_of_mem hv
      exact hL.ok (hl i v hi g)
    · rw [g]; trivial
end QR
