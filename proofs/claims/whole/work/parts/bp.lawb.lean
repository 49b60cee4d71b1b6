/-! ===== the law's beginning (written by lawb.py) ===== -/
def q_LB (b : Nat) (ad : Nat → Nat) (n : Nat) (L : List qv) (nL : Nat) (ls : Array Slot) : Prop := lv_has ls nL ((0, .ref b) :: q_lv ad L) ∧ ∀ v ∈ L, qok n v
theorem q_LB.ext {b : Nat} {ad ad' : Nat → Nat} {n n' nL : Nat} {L : List qv} {ls : Array Slot} (h : q_LB b ad n L nL ls) (he : ∀ k, k < n → ad' k = ad k) (hn : n ≤ n') : q_LB b ad' n' L nL ls := by
  refine ⟨q_lv_mono h.1 (fun q hq => ?_), fun v hv => (h.2 v hv).mono hn⟩
  rcases List.mem_cons.mp hq with hq | hq
  · rw [hq]; exact List.mem_cons_self
  · obtain ⟨i, w⟩ := q
    obtain ⟨v, h1, h2, rfl⟩ := q_lv_mem.mp hq
    exact List.mem_cons_of_mem _ (q_lv_mem.mpr ⟨v, h1, h2, qe_ext he (h.2 v (List.mem_of_getElem? h1))⟩)
theorem q_LB.set1 {b : Nat} {ad : Nat → Nat} {n nL i : Nat} {L : List qv} {ls : Array Slot} {v : qv} (h0 : ∀ v ∈ L, qok n v) (hv : qok n v) (hi : i ≠ 0) (hp : ∀ w, L[i - 1]? = some w → i ≠ 0 → w.1 ≠ 1)
    (h : lv_has ls nL ((i, qe ad v) :: ((0, .ref b) :: q_lv ad L).filter (fun q => !(q.1 == i) && !(q.1 + 1 == i && q.2.category == 2)))) : q_LB b ad n (L.set i v) nL ls := by
  refine ⟨q_lv_mono h (fun q hq => ?_), fun w hw => ?_⟩
  · rcases List.mem_cons.mp hq with hq | hq
    · rw [hq]
      exact List.mem_cons_of_mem _ (List.mem_filter.mpr ⟨List.mem_cons_self, by simp [Ne.symm hi, Value.category]⟩)
    · obtain ⟨j, w⟩ := q
      obtain ⟨u, h1, h2, rfl⟩ := q_lv_mem.mp hq
      by_cases hj : j = i
      · subst hj
        rw [List.getElem?_set] at h1
        simp at h1
        rw [h1.2]
        exact List.mem_cons_self
      · rw [List.getElem?_set_ne (Ne.symm hj)] at h1
        refine List.mem_cons_of_mem _ (List.mem_filter.mpr ⟨List.mem_cons_of_mem _ (q_lv_mem.mpr ⟨u, h1, h2, rfl⟩), ?_⟩)
        by_cases hj2 : j + 1 = i
        · have := hp u (by rw [← hj2]; exact h1) (by omega)
          rw [q_cat]
          simp [hj, this]
        · simp [hj, hj2]
  · rcases List.mem_or_eq_of_mem_set hw with h | h
    · exact h0 w h
    · rw [h]; exact hv
def q_AtB (y : MethodName) (cc : ByteArray) (nL : Nat) (rt : Option FieldType) (kc ks : Nat) (SC : Nat × Nat × (Nat → Int32)) (pc : Nat) (L st : List qv) (σ : qh) : Prop :=
  ∀ (p : Program) (l : Launch) (e : Env) (s : State) (m : MethodId) (args : Array Value) (below : List Frame) (meth : Method) (c : Code) (H : Heap) (locs : List Loc) (cells slots mc ms : Nat) (D : va_G) (cid : Nat → ClassId) (ad0 ad : Nat → Nat) (n0 : Nat) (A : Nat → Prop) (ls : Array Slot),
    q_C y cc nL rt p s m args meth c → q_R D cid ad A σ s H locs → (∀ q, s.heap.size ≤ q → A q) → (∀ k, k < n0 → ad k = ad0 k) → n0 ≤ σ.1.length → q_LB SC.1 ad σ.1.length L nL ls → (∀ v ∈ st, qok σ.1.length v) → cells + kc ≤ mc → slots + ks ≤ ms → (q_SG l s A mc ms ∧ ¬ A SC.1 ∧ va_X SC.1 SC.2.1 SC.2.2 s s.heap) →
    W p l e room_1 s m args below meth c H locs cells slots (lw_Z below args s) (F0 m pc ls (st.map (qe ad)))
section QB
variable {y : MethodName} {cc : ByteArray} {nL : Nat} {rt : Option FieldType} {kc ks : Nat} {SC : Nat × Nat × (Nat → Int32)} {pc : Nat} {L st : List qv} {sh : List (Nat × Nat)} {rf mem : qm}
variable {y' : MethodName} {cc' : ByteArray} {nL' : Nat} {d' kc' ks' : Nat} {K' : Int → qh → Prop} {index : Nat}
theorem q_b_iconst {n v : Int} (hd : decode cc pc = .ok (.iconst n, 1)) (hv : Int32.ofInt n = Int32.ofInt v) (hr : q_in32 v) (k : q_AtB y cc nL rt kc ks SC (pc + 1) L ((0, v) :: st) (sh, rf, mem)) : q_AtB y cc nL rt kc ks SC pc L st (sh, rf, mem) := by
  intro p l e s m args below meth c H locs cells slots mc ms D cid ad0 ad n0 A ls C R hA hx hn hL hst hc hs HE
  obtain ⟨h1, h2, h3, h4, h5, h6, h7, h8⟩ := id C
  obtain ⟨hK, hP, hD, hS, hg, hX, hZ⟩ := id R
  exact lv_iconst (v := Int32.ofInt v) h1 h2 hd hv (k p l e s m args below meth c H locs cells slots mc ms D cid ad0 ad n0 A ls C R hA hx hn hL (List.forall_mem_cons.mpr ⟨hr, hst⟩) hc hs HE)
theorem q_b_dup {v : qv} (hd : decode cc pc = .ok (.dup, 1)) (hv : v.1 ≠ 1) (k : q_AtB y cc nL rt kc ks SC (pc + 1) L (v :: v :: st) (sh, rf, mem)) : q_AtB y cc nL rt kc ks SC pc L (v :: st) (sh, rf, mem) := by
  intro p l e s m args below meth c H locs cells slots mc ms D cid ad0 ad n0 A ls C R hA hx hn hL hst hc hs HE
  obtain ⟨h1, h2, h3, h4, h5, h6, h7, h8⟩ := id C
  obtain ⟨hK, hP, hD, hS, hg, hX, hZ⟩ := id R
  obtain ⟨ha0, hst⟩ := List.forall_mem_cons.mp hst
  exact lv_dup h1 h2 hd (by rw [q_cat, if_neg hv]) (k p l e s m args below meth c H locs cells slots mc ms D cid ad0 ad n0 A ls C R hA hx hn hL (List.forall_mem_cons.mpr ⟨ha0, List.forall_mem_cons.mpr ⟨ha0, hst⟩⟩) hc hs HE)
theorem q_b_istore {i : Nat} {x : Int} (hd : decode cc pc = .ok (.istore i, 2)) (hi : i < nL) (hi0 : i ≠ 0) (hp : ∀ w, L[i - 1]? = some w → i ≠ 0 → w.1 ≠ 1) (k : q_AtB y cc nL rt kc ks SC (pc + 2) (L.set i (0, x)) st (sh, rf, mem)) : q_AtB y cc nL rt kc ks SC pc L ((0, x) :: st) (sh, rf, mem) := by
  intro p l e s m args below meth c H locs cells slots mc ms D cid ad0 ad n0 A ls C R hA hx hn hL hst hc hs HE
  obtain ⟨h1, h2, h3, h4, h5, h6, h7, h8⟩ := id C
  obtain ⟨hK, hP, hD, hS, hg, hX, hZ⟩ := id R
  obtain ⟨hx0, hst⟩ := List.forall_mem_cons.mp hst
  refine lv_istore h1 h2 hd hL.1 hi rfl (fun ls' hl' => ?_)
  exact k p l e s m args below meth c H locs cells slots mc ms D cid ad0 ad n0 A ls' C R hA hx hn (q_LB.set1 (v := (0, x)) hL.2 hx0 hi0 hp hl') hst hc hs HE
theorem q_b_astore_n {i : Nat} {x : Int} {j : Fin 4} (hd : decode cc pc = .ok (.astore_n j, 1)) (hj : (j : Nat) = i) (hi : i < nL) (hi0 : i ≠ 0) (hp : ∀ w, L[i - 1]? = some w → i ≠ 0 → w.1 ≠ 1) (k : q_AtB y cc nL rt kc ks SC (pc + 1) (L.set i (2, x)) st (sh, rf, mem)) : q_AtB y cc nL rt kc ks SC pc L ((2, x) :: st) (sh, rf, mem) := by
  intro p l e s m args below meth c H locs cells slots mc ms D cid ad0 ad n0 A ls C R hA hx hn hL hst hc hs HE
  obtain ⟨h1, h2, h3, h4, h5, h6, h7, h8⟩ := id C
  obtain ⟨hK, hP, hD, hS, hg, hX, hZ⟩ := id R
  obtain ⟨hx0, hst⟩ := List.forall_mem_cons.mp hst
  refine lv_astore_n h1 h2 hd hj hL.1 hi rfl (fun ls' hl' => ?_)
  exact k p l e s m args below meth c H locs cells slots mc ms D cid ad0 ad n0 A ls' C R hA hx hn (q_LB.set1 (v := (2, x)) hL.2 hx0 hi0 hp hl') hst hc hs HE
theorem q_b_new {index ci N : Nat} {C : String} {T : u_T} (hd : decode cc pc = .ok (.new index, 3)) (hcl : q_cl[ci]? = some (C, T, N)) (hw1 : Cond.classLink y.cls index C ∈ q_TB) (hw2 : Cond.instantiable C N ∈ q_TB) (hw3 : Cond.initialized C ∈ q_TB)
    (kk : q_AtB y cc nL rt kc ks SC (pc + 3) L ((2, (sh.length : Int)) :: st) (sh ++ [(ci + 5, N)], q_z rf sh.length (-1), q_z mem sh.length 0)) : q_AtB y cc nL rt (kc + 1) (ks + N) SC pc L st (sh, rf, mem) := by
  intro p l e s m args below meth c0 H locs cells slots mc ms D cid ad0 ad n0 A ls C R hA hx hn hL hst hcz hsz HE
  obtain ⟨h1, h2, h3, h4, h5, h6, h7, h8⟩ := id C
  obtain ⟨hK, hP, hD, hS, hg, hX, hZ⟩ := id R
  obtain ⟨ty, t1, t2⟩ := q_dfl ci _ _ _ hcl
  refine va_new (fs := q_fs ad (q_z rf sh.length (-1)) (q_z mem sh.length 0) ci sh.length N) h1 h2 h8 (q_clo ci _ _ _ hcl).1 ty t1 h7 (h8 _ hw1) (h8 _ hw2) (h8 _ hw3) hK hP hD hS hA hcl (fun j hj => ?_) (by show cells + 1 ≤ 601024; have := HE.1.1; omega) (by show slots + N ≤ 7293034; have := HE.1.2.1; omega) hd (fun q H1 hP1 hD1 hS1 => ?_)
  · rw [t2 j hj, vp_V, List.getD_eq_getElem?_getD, q_fs_at hj, q_z_self, q_z_self]
    rfl
  have hup : ∀ k, k < sh.length → va_up ad sh.length q k = ad k := fun k hk => by unfold va_up; rw [if_neg (by omega)]
  have hE : q_ws cid (va_up ad sh.length q) (sh ++ [(ci + 5, N)], q_z rf sh.length (-1), q_z mem sh.length 0) = q_ws cid ad (sh, rf, mem) ++ [(q, Sum.inr (ci, q_fs ad (q_z rf sh.length (-1)) (q_z mem sh.length 0) ci sh.length N))] := by
    rw [q_ws_push hg.2.2]
    congr 3
    show Sum.inr (ci, q_fs (va_up ad sh.length q) (q_z rf sh.length (-1)) (q_z mem sh.length 0) ci sh.length N) = _
    congr 2
    refine List.map_congr_left (fun j _ => ?_)
    rw [q_z_self, q_z_self]
    rfl
  have hmap : List.map (qe ad) st = List.map (qe (va_up ad sh.length q)) st := (q_map_ext hup hst).symm
  have hq : Value.ref q = qe (va_up ad sh.length q) (2, (sh.length : Int)) := by
    show Value.ref q = Value.ref (va_up ad sh.length q ((sh.length : Int)).toNat)
    rw [Int.toNat_natCast]; unfold va_up; rw [if_pos rfl]
  rw [hmap, hq]
  refine kk p l e s m args below meth c0 H1 locs (cells + 1) (slots + N) mc ms D cid ad0 (va_up ad sh.length q) n0 A ls C ⟨hK, by rw [hE]; exact hP1, by rw [hE]; exact hD1, hS1, hg.push, hX, hZ⟩ hA (fun k hk => (hup k (Nat.lt_of_lt_of_le hk hn)).trans (hx k hk)) ?_ (hL.ext hup ?_) ?_ (by omega) (by omega) HE
  · show n0 ≤ (sh ++ [_]).length
    rw [List.length_append]; have : n0 ≤ sh.length := hn; omega
  · show sh.length ≤ (sh ++ [_]).length
    rw [List.length_append]; omega
  · refine List.forall_mem_cons.mpr ⟨?_, fun v hv => (hst v hv).mono ?_⟩
    · show (0 : Int) ≤ (sh.length : Int) ∧ (sh.length : Int) < ((sh ++ [_]).length : Nat)
      rw [List.length_append, List.length_singleton]; omega
    · show sh.length ≤ (sh ++ [_]).length
      rw [List.length_append]; omega
theorem q_b_newJ {x : Int} {N : Nat} (hd : decode cc pc = .ok (.newarray .long, 2)) (hw : Cond.arrayClass .long ∈ q_TB) (hxN : x = (N : Int)) (hb : N ≤ 60000000)
    (kk : q_AtB y cc nL rt kc ks SC (pc + 2) L ((2, (sh.length : Int)) :: st) (sh ++ [(1, N)], q_z rf sh.length (-1), q_z mem sh.length 0)) : q_AtB y cc nL rt (kc + 1) (ks + N) SC pc L ((0, x) :: st) (sh, rf, mem) := by
  subst hxN
  intro p l e s m args below meth c0 H locs cells slots mc ms D cid ad0 ad n0 A ls C R hA hx hn hL hst hcz hsz HE
  obtain ⟨h1, h2, h3, h4, h5, h6, h7, h8⟩ := id C
  obtain ⟨hK, hP, hD, hS, hg, hX, hZ⟩ := id R
  obtain ⟨hx0, hst⟩ := List.forall_mem_cons.mp hst
  have hi : q_in32 (N : Int) := hx0
  refine va_newa (atype := .long) (a0 := (N, .inr (.inl (fun _ => 0)))) (ty := .long) h1 h2 (h8 _ hw) rfl hK hP hD hS hA (fun cA => rfl) (by rw [← q_zero, q_lt32 hi q_in0]; omega) ((q_clamp hi).trans (Int.toNat_natCast N)) (by show N * 8 ≤ 536870912; omega) (by show cells + 1 ≤ 601024; have := HE.1.1; omega) (by show slots + N ≤ 7293034; have := HE.1.2.1; omega) hd (fun q cA H1 hK1 hP1 hD1 hS1 => ?_)
  have hcA : cA = cid 1 := by
    have g1 : s.vm.findClass ("[" ++ (.long : FieldType).toString) = some cA := (hK1.2 5 (cA, .long) rfl).2
    have g2 : s.vm.findClass ("[" ++ (.long : FieldType).toString) = some (cid 1) := (hK.2 1 (cid 1, .long) rfl).2
    exact Option.some.inj (g1.symm.trans g2)
  subst hcA
  have hup : ∀ k, k < sh.length → va_up ad sh.length q k = ad k := fun k hk => by unfold va_up; rw [if_neg (by omega)]
  have hE : q_ws cid (va_up ad sh.length q) (sh ++ [(1, N)], q_z rf sh.length (-1), q_z mem sh.length 0) = q_ws cid ad (sh, rf, mem) ++ [(q, Sum.inl (cid 1, N, .inr (.inl (fun _ => 0))))] := by
    rw [q_ws_push hg.2.2]
    congr 3
    simp only [q_cell, q_z_self]
    rfl
  have hmap : List.map (qe ad) st = List.map (qe (va_up ad sh.length q)) st := (q_map_ext hup hst).symm
  have hq : Value.ref q = qe (va_up ad sh.length q) (2, (sh.length : Int)) := by
    show Value.ref q = Value.ref (va_up ad sh.length q ((sh.length : Int)).toNat)
    rw [Int.toNat_natCast]; unfold va_up; rw [if_pos rfl]
  rw [hmap, hq]
  refine kk p l e s m args below meth c0 H1 locs (cells + 1) (slots + N) mc ms D cid ad0 (va_up ad sh.length q) n0 A ls C ⟨hK, by rw [hE]; exact hP1, by rw [hE]; exact hD1, hS1, hg.push, hX, hZ⟩ hA (fun k hk => (hup k (Nat.lt_of_lt_of_le hk hn)).trans (hx k hk)) ?_ (hL.ext hup ?_) ?_ (by omega) (by omega) HE
  · show n0 ≤ (sh ++ [_]).length
    rw [List.length_append]; have : n0 ≤ sh.length := hn; omega
  · show sh.length ≤ (sh ++ [_]).length
    rw [List.length_append]; omega
  · refine List.forall_mem_cons.mpr ⟨?_, fun v hv => (hst v hv).mono ?_⟩
    · show (0 : Int) ≤ (sh.length : Int) ∧ (sh.length : Int) < ((sh ++ [_]).length : Nat)
      rw [List.length_append, List.length_singleton]; omega
    · show sh.length ≤ (sh ++ [_]).length
      rw [List.length_append]; omega
theorem q_b_invI {c : Int} {n : Nat} (as : List qv) (hE : q_Ev y' cc' nL' none d' kc' ks' ((2, c) :: as) (sh, rf, mem) K') (hM : q_MI y' cc' nL' n) (hd : decode cc pc = .ok (.invokespecial index, 3)) (hw : Cond.methodLink y.cls index y' ∈ q_TB) (hn' : as.length = n) (hdd : d' ≤ 2000) (hnl : nL' ≤ 21) (hsum : (st.map (fun v => if v.1 = 1 then 2 else 1)).sum ≤ 8)
    (hk : ∀ (r : Int) (σ : qh), K' r σ → q_in32 r → sh.length ≤ σ.1.length → q_AtB y cc nL rt kc ks SC (pc + 3) L st σ) : q_AtB y cc nL rt (kc + kc') (ks + ks') SC pc L (as.reverse ++ (2, c) :: st) (sh, rf, mem) := by
  intro p l e s m args below meth c0 H locs cells slots mc ms D cid ad0 ad n0 A ls C R hA hx hn hL hst hcz hsz HE
  obtain ⟨h1, h2, h3, h4, h5, h6, h7, h8⟩ := id C
  obtain ⟨hK, hP, hD, hS, hg, hX, hZ⟩ := id R
  obtain ⟨m0, m1, m3, m4, m5, m6, m7⟩ := hM
  have hst2 : ∀ v ∈ (2, c) :: st, qok sh.length v := fun v hv => hst v (List.mem_append_right _ hv)
  have hc0 := hst2 _ List.mem_cons_self
  have hst3 : ∀ v ∈ st, qok sh.length v := fun v hv => hst2 v (List.mem_cons_of_mem _ hv)
  have has : ∀ v ∈ (2, c) :: as, qok sh.length v := List.forall_mem_cons.mpr ⟨hc0, fun v hv => hst v (List.mem_append_left _ (List.mem_reverse.mpr hv))⟩
  have hMet := hE l D cid ad H.size hg has
  have cw : CallB room_1 s args y.cls index y' cc' nL' none (.code y' cc' nL' none :: q_TB) (q_rm d' kc' ks') kc' ks' n ∧ y'.name = "<init>" ∧ (Cond.instanceMethod y').before args s = true :=
    ⟨callB_of n h8 (q_goodIn m4) rfl rfl rfl (h8 _ m3) (h8 _ hw) ⟨m5, m6, m7⟩ ⟨by show d' + 1 ≤ 2048; omega, by show 8 + (nL' + 11) + 40 * d' ≤ 84000; omega⟩, m0, h8 _ m1⟩
  refine q_back (A1 := va_A (q_ws cid ad (sh, rf, mem)) H.size) (rest := st.map (qe ad)) (va_runI (b := ad c.toNat) (As := as.map (qe ad)) ⟨h1, h2, h3, h7, h8⟩ hMet cw ⟨q_Pc_blind, fun U hU hW => ⟨rfl, by rw [hU], va_K.moved hW.alike hK, by rw [hU]; exact hP, hD.self, hX.warm hW, by rw [hU]; exact ((hZ.kept hS.2.1).narrow (q_A1 hD hS hA)).moved hW.alike⟩⟩ rfl (by rw [List.length_map]; exact hn') hL.1.1 (by simp [qe]) (lv_room (by rw [q_sumcat]; exact hsum)) hd ⟨by show cells + kc' ≤ 601024; have := HE.1.1; omega, by show slots + ks' ≤ 7293034; have := HE.1.2.1; omega⟩) hS (q_A1 hD hS hA) (fun r σ ad' H1 locs1 k1 k2 k4 k5 k6 k7 k8 k9 => ?_)
  have e1 : List.map (qe ad) st = List.map (qe ad') st := (q_map_ext k4 hst3).symm
  rw [e1]
  exact hk r σ k1 k2 k5 p l e s m args below meth c0 H1 locs1 (cells + kc') (slots + ks') mc ms D cid ad0 ad' n0 A ls C ⟨hK, k6, k7, k9, k8, hX, hZ⟩ hA (fun k hk' => (k4 k (Nat.lt_of_lt_of_le hk' hn)).trans (hx k hk')) (Nat.le_trans hn k5) (hL.ext k4 k5) (fun v hv => (hst3 v hv).mono k5) (by omega) (by omega) HE
theorem b_new {index ci N n : Nat} {C : String} {T : u_T} {sh' : List (Nat × Nat)} (hlen : sh.length = n) (hsh : sh ++ [(ci + 5, N)] = sh') (hd : decode cc pc = .ok (.new index, 3)) (hcl : q_cl[ci]? = some (C, T, N)) (hw1 : Cond.classLink y.cls index C ∈ q_TB) (hw2 : Cond.instantiable C N ∈ q_TB) (hw3 : Cond.initialized C ∈ q_TB)
    (kk : q_AtB y cc nL rt kc ks SC (pc + 3) L ((2, (n : Int)) :: st) (sh', q_z rf n (-1), q_z mem n 0)) : q_AtB y cc nL rt (kc + 1) (ks + N) SC pc L st (sh, rf, mem) := by
  subst hlen; subst hsh
  exact q_b_new hd hcl hw1 hw2 hw3 kk
theorem b_newJ {x : Int} {N n : Nat} {sh' : List (Nat × Nat)} (hlen : sh.length = n) (hsh : sh ++ [(1, N)] = sh') (hd : decode cc pc = .ok (.newarray .long, 2)) (hw : Cond.arrayClass .long ∈ q_TB) (hxN : x = (N : Int)) (hb : N ≤ 60000000)
    (kk : q_AtB y cc nL rt kc ks SC (pc + 2) L ((2, (n : Int)) :: st) (sh', q_z rf n (-1), q_z mem n 0)) : q_AtB y cc nL rt (kc + 1) (ks + N) SC pc L ((0, x) :: st) (sh, rf, mem) := by
  subst hlen; subst hsh
  exact q_b_newJ hd hw hxN hb kk
/-- the world is made: the script gets its number -/
theorem b_end {Lb L : List qv} (h1 : Lb[0]? = some (4, 0)) (h2 : L = Lb.set 0 (2, 226)) (k : q_AtS y cc nL rt kc ks SC pc L st (q_sh0, rf, mem)) : q_AtB y cc nL rt kc ks SC pc Lb st (q_sh0, rf, mem) := by
  intro p l e s m args below meth c H locs cells slots mc ms D cid ad0 ad n0 A ls C R hA hx hn hL hst hc hs HE
  obtain ⟨hK, hP, hD, hS, hg, hX, hZ⟩ := id R
  have e2 : ∀ k, k < 226 → (fun k => if k = 226 then SC.1 else ad k) k = ad k := fun k h => if_neg (by omega)
  have e3 : (fun k => if k = 226 then SC.1 else ad k) 226 = SC.1 := if_pos rfl
  have ew := s_ws (cid := cid) hg (ad := ad) (ad' := fun k => if k = 226 then SC.1 else ad k) e2
  generalize hg2 : (fun k => if k = 226 then SC.1 else ad k) = ad2 at e2 e3 ew
  have e1 : List.map (qe ad) st = List.map (qe ad2) st := (q_map_ext (n := 226) e2 hst).symm
  rw [e1]
  refine k p l e s m args below meth c H locs cells slots mc ms D cid ad ad2 0 A ls C ⟨hK, by rw [ew]; exact hP, by rw [ew]; exact hD, hS, hg, hX, hZ⟩ hA e3 HE.2 ?_ (fun v hv => (hst v hv).mono (Nat.le_of_ble_eq_true rfl : 226 ≤ 227)) hc hs HE.1
  subst h2
  refine ⟨q_lv_mono hL.1 (fun q hq => ?_), fun v hv => ?_⟩
  · obtain ⟨i, w⟩ := q
    obtain ⟨v, g1, g2, rfl⟩ := q_lv_mem.mp hq
    by_cases hi : i = 0
    · subst hi
      rw [List.getElem?_set] at g1
      simp at g1
      rw [← g1.2]
      show (0, Value.ref (ad2 226)) ∈ _
      rw [e3]
      exact List.mem_cons_self
    · rw [List.getElem?_set_ne (Ne.symm hi)] at g1
      exact List.mem_cons_of_mem _ (q_lv_mem.mpr ⟨v, g1, g2, qe_ext (n := 226) e2 (hL.2 v (List.mem_of_getElem? g1))⟩)
  · rcases List.mem_or_eq_of_mem_set hv with h | h
    · exact (hL.2 v h).mono (Nat.le_of_ble_eq_true rfl : 226 ≤ 227)
    · rw [h]; exact ⟨by decide, by decide⟩
end QB
