section QI
variable {y : MethodName} {cc : ByteArray} {nL : Nat} {rt : Option FieldType} {d kc ks : Nat} {K : Int → qh → Prop} {pc : Nat} {L st : List qv} {sh : List (Nat × Nat)} {rf mem : qm}
variable {y' : MethodName} {cc' : ByteArray} {nL' : Nat} {rt' : Option FieldType} {d' kc' ks' : Nat} {K' : Int → qh → Prop} {index : Nat}
theorem q_invIN {c : Int} {n : Nat} {host : String} (as : List qv) (hE : q_Ev y' cc' nL' none d' kc' ks' ((2, c) :: as) (sh, rf, mem) K') (hM : q_MI y' cc' nL' n) (hd : decode cc pc = .ok (.invokespecial index, 3)) (hw : (y.cls, index, y', host) ∈ q_NX) (hn' : as.length = n) (hdd : d' < d) (hnl : nL' ≤ 21) (hsum : (st.map (fun v => if v.1 = 1 then 2 else 1)).sum ≤ 8)
    (hk : ∀ (r : Int) (σ : qh), K' r σ → q_in32 r → sh.length ≤ σ.1.length → q_At y cc nL rt d kc ks K (pc + 3) L st σ) : q_At y cc nL rt d (kc + kc') (ks + ks') K pc L (as.reverse ++ (2, c) :: st) (sh, rf, mem) := by
  intro p l e s m args below meth c0 H locs cells slots mc ms D cid ad0 ad n0 A ls C R hA hx hn hL hst hcz hsz
  obtain ⟨h1, h2, h3, h4, h5, h6, h7, h8⟩ := id C
  obtain ⟨hK, hP, hD, hS, hg, hX, hZ⟩ := id R
  obtain ⟨m0, m1, m3, m4, m5, m6, m7⟩ := hM
  have hst2 : ∀ v ∈ (2, c) :: st, qok sh.length v := fun v hv => hst v (List.mem_append_right _ hv)
  have hc0 := hst2 _ List.mem_cons_self
  have hst3 : ∀ v ∈ st, qok sh.length v := fun v hv => hst2 v (List.mem_cons_of_mem _ hv)
  have has : ∀ v ∈ (2, c) :: as, qok sh.length v := List.forall_mem_cons.mpr ⟨hc0, fun v hv => hst v (List.mem_append_left _ (List.mem_reverse.mpr hv))⟩
  have hMet := hE l D cid ad H.size hg has
  have cw : va_CN (q_rm d mc ms) s args y.cls index y' host cc' nL' none (.code y' cc' nL' none :: q_TB) (q_rm d' kc' ks') kc' ks' n ∧ y'.name = "<init>" ∧ (Cond.instanceMethod y').before args s = true :=
    ⟨va_cnB n h8 (q_goodIn m4) rfl rfl rfl (hX.2 _ hw) (h8 _ m3) ⟨m5, m6, m7⟩ ⟨by show d' + 1 ≤ d; omega, by show 8 + (nL' + 11) + 40 * d' ≤ 40 * d; omega⟩, m0, h8 _ m1⟩
  refine q_back (A1 := va_A (q_ws cid ad (sh, rf, mem)) H.size) (rest := st.map (qe ad)) (va_runIN (b := ad c.toNat) (As := as.map (qe ad)) ⟨h1, h2, h3, h7, h8⟩ hMet cw ⟨q_Pc_blind, fun U hU hW => ⟨rfl, by rw [hU], va_K.moved hW.alike hK, by rw [hU]; exact hP, hD.self, hX.warm hW, by rw [hU]; exact ((hZ.kept hS.2.1).narrow (q_A1 hD hS hA)).moved hW.alike⟩⟩ rfl (by rw [List.length_map]; exact hn') hL.1.1 (by simp [qe]) (lv_room (by rw [q_sumcat]; exact hsum)) hd ⟨by show cells + kc' ≤ mc; omega, by show slots + ks' ≤ ms; omega⟩) hS (q_A1 hD hS hA) (fun r σ ad' H1 locs1 k1 k2 k4 k5 k6 k7 k8 k9 => ?_)
  have e1 : List.map (qe ad) st = List.map (qe ad') st := (q_map_ext k4 hst3).symm
  rw [e1]
  exact hk r σ k1 k2 k5 p l e s m args below meth c0 H1 locs1 (cells + kc') (slots + ks') mc ms D cid ad0 ad' n0 A ls C ⟨hK, k6, k7, k9, k8, hX, hZ⟩ hA (fun k hk' => (k4 k (Nat.lt_of_lt_of_le hk' hn)).trans (hx k hk')) (Nat.le_trans hn k5) (hL.ext k4 k5) (fun v hv => (hst3 v hv).mono k5) (by omega) (by omega)
theorem qx_newI {x nI : Int} {N n kc1 ks1 : Nat} {sh' : List (Nat × Nat)} (hd : decode cc pc = .ok (.newarray .int, 2)) (hw : Cond.arrayClass .int ∈ q_TB) (hxN : x = (N : Int)) (hb : Nat.ble N 60000000 = true) (hn : sh.length = n) (hnI : (n : Int) = nI) (hsh : sh ++ [(0, N)] = sh') (hkc : kc1 = kc + 1) (hks : ks1 = ks + N)
    (kk : q_At y cc nL rt d kc ks K (pc + 2) L ((2, nI) :: st) (sh', q_z rf n (-1), q_z mem n 0)) : q_At y cc nL rt d kc1 ks1 K pc L ((0, x) :: st) (sh, rf, mem) := by
  subst hn; subst hnI; subst hsh; subst hkc; subst hks
  exact q_newI hd hw hxN (Nat.le_of_ble_eq_true hb) kk
theorem qx_newJ {x nI : Int} {N n kc1 ks1 : Nat} {sh' : List (Nat × Nat)} (hd : decode cc pc = .ok (.newarray .long, 2)) (hw : Cond.arrayClass .long ∈ q_TB) (hxN : x = (N : Int)) (hb : Nat.ble N 60000000 = true) (hn : sh.length = n) (hnI : (n : Int) = nI) (hsh : sh ++ [(1, N)] = sh') (hkc : kc1 = kc + 1) (hks : ks1 = ks + N)
    (kk : q_At y cc nL rt d kc ks K (pc + 2) L ((2, nI) :: st) (sh', q_z rf n (-1), q_z mem n 0)) : q_At y cc nL rt d kc1 ks1 K pc L ((0, x) :: st) (sh, rf, mem) := by
  subst hn; subst hnI; subst hsh; subst hkc; subst hks
  exact q_newJ hd hw hxN (Nat.le_of_ble_eq_true hb) kk
theorem qx_newB {x nI : Int} {N n kc1 ks1 : Nat} {sh' : List (Nat × Nat)} (hd : decode cc pc = .ok (.newarray .byte, 2)) (hw : Cond.arrayClass .byte ∈ q_TB) (hxN : x = (N : Int)) (hb : Nat.ble N 60000000 = true) (hn : sh.length = n) (hnI : (n : Int) = nI) (hsh : sh ++ [(2, N)] = sh') (hkc : kc1 = kc + 1) (hks : ks1 = ks + N)
    (kk : q_At y cc nL rt d kc ks K (pc + 2) L ((2, nI) :: st) (sh', q_z rf n (-1), q_z mem n 0)) : q_At y cc nL rt d kc1 ks1 K pc L ((0, x) :: st) (sh, rf, mem) := by
  subst hn; subst hnI; subst hsh; subst hkc; subst hks
  exact q_newB hd hw hxN (Nat.le_of_ble_eq_true hb) kk
theorem qx_newZ {x nI : Int} {N n kc1 ks1 : Nat} {sh' : List (Nat × Nat)} (hd : decode cc pc = .ok (.newarray .boolean, 2)) (hw : Cond.arrayClass .boolean ∈ q_TB) (hxN : x = (N : Int)) (hb : Nat.ble N 60000000 = true) (hn : sh.length = n) (hnI : (n : Int) = nI) (hsh : sh ++ [(3, N)] = sh') (hkc : kc1 = kc + 1) (hks : ks1 = ks + N)
    (kk : q_At y cc nL rt d kc ks K (pc + 2) L ((2, nI) :: st) (sh', q_z rf n (-1), q_z mem n 0)) : q_At y cc nL rt d kc1 ks1 K pc L ((0, x) :: st) (sh, rf, mem) := by
  subst hn; subst hnI; subst hsh; subst hkc; subst hks
  exact q_newZ hd hw hxN (Nat.le_of_ble_eq_true hb) kk
theorem qx_newQ {x nI : Int} {N n kc1 ks1 : Nat} {sh' : List (Nat × Nat)} (hd : decode cc pc = .ok (.anewarray index, 3)) (hw : Cond.classLink y.cls index RX7 ∈ q_TB) (hxN : x = (N : Int)) (hb : Nat.ble N 60000000 = true) (hn : sh.length = n) (hnI : (n : Int) = nI) (hsh : sh ++ [(4, N)] = sh') (hkc : kc1 = kc + 1) (hks : ks1 = ks + N)
    (kk : q_At y cc nL rt d kc ks K (pc + 3) L ((2, nI) :: st) (sh', q_z rf n (-1), q_z mem n 0)) : q_At y cc nL rt d kc1 ks1 K pc L ((0, x) :: st) (sh, rf, mem) := by
  subst hn; subst hnI; subst hsh; subst hkc; subst hks
  exact q_newQ hd hw hxN (Nat.le_of_ble_eq_true hb) kk
theorem qx_new {nI : Int} {ci N n kc1 ks1 : Nat} {C : String} {T : u_T} {sh' : List (Nat × Nat)} (hd : decode cc pc = .ok (.new index, 3)) (hcl : q_cl[ci]? = some (C, T, N)) (hw1 : Cond.classLink y.cls index C ∈ q_TB) (hw2 : Cond.instantiable C N ∈ q_TB) (hw3 : Cond.initialized C ∈ q_TB) (hn : sh.length = n) (hnI : (n : Int) = nI) (hsh : sh ++ [(ci + 5, N)] = sh') (hkc : kc1 = kc + 1) (hks : ks1 = ks + N)
    (kk : q_At y cc nL rt d kc ks K (pc + 3) L ((2, nI) :: st) (sh', q_z rf n (-1), q_z mem n 0)) : q_At y cc nL rt d kc1 ks1 K pc L st (sh, rf, mem) := by
  subst hn; subst hnI; subst hsh; subst hkc; subst hks
  exact q_new hd hcl hw1 hw2 hw3 kk
theorem qx_invI {c : Int} {n kc1 ks1 : Nat} {σ' : qh} (as : List qv) (st' : List qv) (hst : as.reverse ++ (2, c) :: st = st') (hM : q_MI y' cc' nL' n) (hd : decode cc pc = .ok (.invokespecial index, 3)) (hw : Cond.methodLink y.cls index y' ∈ q_TB) (hn' : as.length = n) (hdd : Nat.ble (d' + 1) d = true) (hnl : Nat.ble nL' 21 = true) (hsum : Nat.ble (st.map (fun v => if v.1 = 1 then 2 else 1)).sum 8 = true) (hkc : kc1 = kc + kc') (hks : ks1 = ks + ks') (hE : q_Ev y' cc' nL' none d' kc' ks' ((2, c) :: as) (sh, rf, mem) (fun _ σ => σ = σ'))
    (hk : q_At y cc nL rt d kc ks K (pc + 3) L st σ') : q_At y cc nL rt d kc1 ks1 K pc L st' (sh, rf, mem) := by
  subst hst; subst hkc; subst hks
  exact q_invI as hE hM hd hw hn' (Nat.le_of_ble_eq_true hdd) (Nat.le_of_ble_eq_true hnl) (Nat.le_of_ble_eq_true hsum) (fun r σ h _ _ => by subst h; exact hk)
theorem qx_invIN {c : Int} {n kc1 ks1 : Nat} {σ' : qh} {host : String} (as : List qv) (st' : List qv) (hst : as.reverse ++ (2, c) :: st = st') (hM : q_MI y' cc' nL' n) (hd : decode cc pc = .ok (.invokespecial index, 3)) (hw : (y.cls, index, y', host) ∈ q_NX) (hn' : as.length = n) (hdd : Nat.ble (d' + 1) d = true) (hnl : Nat.ble nL' 21 = true) (hsum : Nat.ble (st.map (fun v => if v.1 = 1 then 2 else 1)).sum 8 = true) (hkc : kc1 = kc + kc') (hks : ks1 = ks + ks') (hE : q_Ev y' cc' nL' none d' kc' ks' ((2, c) :: as) (sh, rf, mem) (fun _ σ => σ = σ'))
    (hk : q_At y cc nL rt d kc ks K (pc + 3) L st σ') : q_At y cc nL rt d kc1 ks1 K pc L st' (sh, rf, mem) := by
  subst hst; subst hkc; subst hks
  exact q_invIN as hE hM hd hw hn' (Nat.le_of_ble_eq_true hdd) (Nat.le_of_ble_eq_true hnl) (Nat.le_of_ble_eq_true hsum) (fun r σ h _ _ => by subst h; exact hk)
end QI
