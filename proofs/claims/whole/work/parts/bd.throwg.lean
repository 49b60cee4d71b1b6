/-! ===== walks that end in a throw ===== -/
abbrev qF : Type := List Frame → Array Value → State → Nat → Nat → va_G → (Nat → ClassId) → (Nat → Nat) → Nat → (Nat → Prop) → State → Prop
def q_AtG (y : MethodName) (cc : ByteArray) (nL : Nat) (rt : Option FieldType) (d kc ks : Nat) (G : Program → Launch → Env → State → MethodId → Code → (Nat → Prop) → Prop) (K : qF) (pc : Nat) (L st : List qv) (σ : qh) : Prop :=
  ∀ (p : Program) (l : Launch) (e : Env) (s : State) (m : MethodId) (args : Array Value) (below : List Frame) (meth : Method) (c : Code) (H : Heap) (locs : List Loc) (cells slots mc ms : Nat) (D : va_G) (cid : Nat → ClassId) (ad0 ad : Nat → Nat) (n0 : Nat) (A : Nat → Prop) (ls : Array Slot),
    q_C y cc nL rt p s m args meth c → q_R D cid ad A σ s H locs → (∀ q, s.heap.size ≤ q → A q) → (∀ k, k < n0 → ad k = ad0 k) → n0 ≤ σ.1.length → q_L ad σ.1.length L nL ls → (∀ v ∈ st, qok σ.1.length v) → cells + kc ≤ mc → slots + ks ≤ ms → G p l e s m c A →
    W p l e (q_rm d mc ms) s m args below meth c H locs cells slots (K below args s mc ms D cid ad0 n0 A) (F0 m pc ls (st.map (qe ad)))
section QG
variable {y : MethodName} {cc : ByteArray} {nL : Nat} {rt : Option FieldType} {d kc ks : Nat} {G : Program → Launch → Env → State → MethodId → Code → (Nat → Prop) → Prop} {K : qF} {pc : Nat} {L st : List qv} {sh : List (Nat × Nat)} {rf mem : qm}
variable {y' : MethodName} {cc' : ByteArray} {nL' : Nat} {rt' : Option FieldType} {d' kc' ks' : Nat} {K' : Int → qh → Prop} {index : Nat}
theorem q_g_iconst {n v : Int} (hd : decode cc pc = .ok (.iconst n, 1)) (hv : Int32.ofInt n = Int32.ofInt v) (hr : q_in32 v) (k : q_AtG y cc nL rt d kc ks G K (pc + 1) L ((0, v) :: st) (sh, rf, mem)) : q_AtG y cc nL rt d kc ks G K pc L st (sh, rf, mem) := by
  intro p l e s m args below meth c H locs cells slots mc ms D cid ad0 ad n0 A ls C R hA hx hn hL hst hc hs HE
  obtain ⟨h1, h2, h3, h4, h5, h6, h7, h8⟩ := id C
  obtain ⟨hK, hP, hD, hS, hg, hX, hZ⟩ := id R
  exact lv_iconst (v := Int32.ofInt v) h1 h2 hd hv (k p l e s m args below meth c H locs cells slots mc ms D cid ad0 ad n0 A ls C R hA hx hn hL (List.forall_mem_cons.mpr ⟨hr, hst⟩) hc hs HE)
theorem q_g_iload {i : Nat} {x : Int} (hd : decode cc pc = .ok (.iload i, 2)) (hl : L[i]? = some (0, x)) (k : q_AtG y cc nL rt d kc ks G K (pc + 2) L ((0, x) :: st) (sh, rf, mem)) : q_AtG y cc nL rt d kc ks G K pc L st (sh, rf, mem) := by
  intro p l e s m args below meth c H locs cells slots mc ms D cid ad0 ad n0 A ls C R hA hx hn hL hst hc hs HE
  obtain ⟨h1, h2, h3, h4, h5, h6, h7, h8⟩ := id C
  obtain ⟨hK, hP, hD, hS, hg, hX, hZ⟩ := id R
  exact lv_iload h1 h2 hd (hL.get hl (Nat.le_of_ble_eq_true rfl)) (k p l e s m args below meth c H locs cells slots mc ms D cid ad0 ad n0 A ls C R hA hx hn hL (List.forall_mem_cons.mpr ⟨hL.ok hl, hst⟩) hc hs HE)
theorem q_g_iload_n {j : Fin 4} {i : Nat} {x : Int} (hd : decode cc pc = .ok (.iload_n j, 1)) (hj : (j : Nat) = i) (hl : L[i]? = some (0, x)) (k : q_AtG y cc nL rt d kc ks G K (pc + 1) L ((0, x) :: st) (sh, rf, mem)) : q_AtG y cc nL rt d kc ks G K pc L st (sh, rf, mem) := by
  intro p l e s m args below meth c H locs cells slots mc ms D cid ad0 ad n0 A ls C R hA hx hn hL hst hc hs HE
  obtain ⟨h1, h2, h3, h4, h5, h6, h7, h8⟩ := id C
  obtain ⟨hK, hP, hD, hS, hg, hX, hZ⟩ := id R
  exact lv_iload_n h1 h2 hd hj (hL.get hl (Nat.le_of_ble_eq_true rfl)) (k p l e s m args below meth c H locs cells slots mc ms D cid ad0 ad n0 A ls C R hA hx hn hL (List.forall_mem_cons.mpr ⟨hL.ok hl, hst⟩) hc hs HE)
theorem q_g_aload_n {j : Fin 4} {i : Nat} {x : Int} (hd : decode cc pc = .ok (.aload_n j, 1)) (hj : (j : Nat) = i) (hl : L[i]? = some (2, x)) (k : q_AtG y cc nL rt d kc ks G K (pc + 1) L ((2, x) :: st) (sh, rf, mem)) : q_AtG y cc nL rt d kc ks G K pc L st (sh, rf, mem) := by
  intro p l e s m args below meth c H locs cells slots mc ms D cid ad0 ad n0 A ls C R hA hx hn hL hst hc hs HE
  obtain ⟨h1, h2, h3, h4, h5, h6, h7, h8⟩ := id C
  obtain ⟨hK, hP, hD, hS, hg, hX, hZ⟩ := id R
  exact lv_aload_n h1 h2 hd hj (hL.get hl (Nat.le_of_ble_eq_true rfl)) (k p l e s m args below meth c H locs cells slots mc ms D cid ad0 ad n0 A ls C R hA hx hn hL (List.forall_mem_cons.mpr ⟨hL.ok hl, hst⟩) hc hs HE)
theorem q_g_if_ne {a : Int} {off : Int} {tgt : Nat} (hd : decode cc pc = .ok (.ifCond .ne off, 3)) (ht : (pc : Int) + off = (tgt : Int)) (kt : a ≠ 0 → q_AtG y cc nL rt d kc ks G K tgt L st (sh, rf, mem)) (kf : ¬ (a ≠ 0) → q_AtG y cc nL rt d kc ks G K (pc + 3) L st (sh, rf, mem)) : q_AtG y cc nL rt d kc ks G K pc L ((0, a) :: st) (sh, rf, mem) := by
  intro p l e s m args below meth c H locs cells slots mc ms D cid ad0 ad n0 A ls C R hA hx hn hL hst hc hs HE
  obtain ⟨h1, h2, h3, h4, h5, h6, h7, h8⟩ := id C
  obtain ⟨hK, hP, hD, hS, hg, hX, hZ⟩ := id R
  obtain ⟨ha0, hst⟩ := List.forall_mem_cons.mp hst
  have hb0 : q_in32 0 := q_in0
  exact lv_if_ne h1 h2 hd ht (fun z => kt (fun q => z ((q_eq32 ha0 hb0).mpr q)) p l e s m args below meth c H locs cells slots mc ms D cid ad0 ad n0 A ls C R hA hx hn hL hst hc hs HE) (fun z => kf (fun q => q ((q_eq32 ha0 hb0).mp z)) p l e s m args below meth c H locs cells slots mc ms D cid ad0 ad n0 A ls C R hA hx hn hL hst hc hs HE)
theorem q_g_if_lt {a : Int} {off : Int} {tgt : Nat} (hd : decode cc pc = .ok (.ifCond .lt off, 3)) (ht : (pc : Int) + off = (tgt : Int)) (kt : a < 0 → q_AtG y cc nL rt d kc ks G K tgt L st (sh, rf, mem)) (kf : ¬ (a < 0) → q_AtG y cc nL rt d kc ks G K (pc + 3) L st (sh, rf, mem)) : q_AtG y cc nL rt d kc ks G K pc L ((0, a) :: st) (sh, rf, mem) := by
  intro p l e s m args below meth c H locs cells slots mc ms D cid ad0 ad n0 A ls C R hA hx hn hL hst hc hs HE
  obtain ⟨h1, h2, h3, h4, h5, h6, h7, h8⟩ := id C
  obtain ⟨hK, hP, hD, hS, hg, hX, hZ⟩ := id R
  obtain ⟨ha0, hst⟩ := List.forall_mem_cons.mp hst
  have hb0 : q_in32 0 := q_in0
  exact lv_if_lt h1 h2 hd ht (fun z => kt ((q_lt32 ha0 hb0).mp z) p l e s m args below meth c H locs cells slots mc ms D cid ad0 ad n0 A ls C R hA hx hn hL hst hc hs HE) (fun z => kf (fun q => z ((q_lt32 ha0 hb0).mpr q)) p l e s m args below meth c H locs cells slots mc ms D cid ad0 ad n0 A ls C R hA hx hn hL hst hc hs HE)
theorem q_g_icmp_lt {a b : Int} {off : Int} {tgt : Nat} (hd : decode cc pc = .ok (.if_icmp .lt off, 3)) (ht : (pc : Int) + off = (tgt : Int)) (kt : a < b → q_AtG y cc nL rt d kc ks G K tgt L st (sh, rf, mem)) (kf : ¬ (a < b) → q_AtG y cc nL rt d kc ks G K (pc + 3) L st (sh, rf, mem)) : q_AtG y cc nL rt d kc ks G K pc L ((0, b) :: (0, a) :: st) (sh, rf, mem) := by
  intro p l e s m args below meth c H locs cells slots mc ms D cid ad0 ad n0 A ls C R hA hx hn hL hst hc hs HE
  obtain ⟨h1, h2, h3, h4, h5, h6, h7, h8⟩ := id C
  obtain ⟨hK, hP, hD, hS, hg, hX, hZ⟩ := id R
  obtain ⟨hb0, hst⟩ := List.forall_mem_cons.mp hst
  obtain ⟨ha0, hst⟩ := List.forall_mem_cons.mp hst
  exact lv_icmp_lt h1 h2 hd ht (fun z => kt ((q_lt32 ha0 hb0).mp z) p l e s m args below meth c H locs cells slots mc ms D cid ad0 ad n0 A ls C R hA hx hn hL hst hc hs HE) (fun z => kf (fun q => z ((q_lt32 ha0 hb0).mpr q)) p l e s m args below meth c H locs cells slots mc ms D cid ad0 ad n0 A ls C R hA hx hn hL hst hc hs HE)
theorem q_g_tabOut {a dflt lo hi : Int} {offs : Array Int} {len tgt : Nat} (hd : decode cc pc = .ok (.tableswitch dflt lo hi offs, len)) (h : a < lo ∨ hi < a) (ht : (pc : Int) + dflt = (tgt : Int)) (k : q_AtG y cc nL rt d kc ks G K tgt L st (sh, rf, mem)) : q_AtG y cc nL rt d kc ks G K pc L ((0, a) :: st) (sh, rf, mem) := by
  intro p l e s m args below meth c H locs cells slots mc ms D cid ad0 ad n0 A ls C R hA hx hn hL hst hc hs HE
  obtain ⟨h1, h2, h3, h4, h5, h6, h7, h8⟩ := id C
  obtain ⟨hK, hP, hD, hS, hg, hX, hZ⟩ := id R
  obtain ⟨ha0, hst⟩ := List.forall_mem_cons.mp hst
  exact lv_tableOut h1 h2 hd (by rw [q_t32 ha0]; exact h) ht (k p l e s m args below meth c H locs cells slots mc ms D cid ad0 ad n0 A ls C R hA hx hn hL hst hc hs HE)
theorem q_g_getI {index ci k n : Nat} {kI c : Int} {C : String} {T : u_T} (hd : decode cc pc = .ok (.getfield index, 3)) (hcl : q_cl[ci]? = some (C, T, n)) (hk : k < n) (hkI : (k : Int) = kI) (hw : Cond.fieldLink y.cls index (T k).1 (T k).2.1 (T k).2.2.1 ∈ q_TB) (hf : q_ft ci k = 0) (hs : sh[c.toNat]? = some (ci + 5, n)) (kk : q_AtG y cc nL rt d kc ks G K (pc + 3) L ((0, mem c kI) :: st) (sh, rf, mem)) : q_AtG y cc nL rt d kc ks G K pc L ((2, c) :: st) (sh, rf, mem) := by
  subst hkI
  intro p l e s m args below meth c0 H locs cells slots mc ms D cid ad0 ad n0 A ls C R hA hx hn hL hst hcz hsz HE
  obtain ⟨h1, h2, h3, h4, h5, h6, h7, h8⟩ := id C
  obtain ⟨hK, hP, hD, hS, hg, hX, hZ⟩ := id R
  obtain ⟨hc0, hst⟩ := List.forall_mem_cons.mp hst
  have hcc : ((c.toNat : Nat) : Int) = c := by have := hc0.1; simp only at this; omega
  have hr := hg.i (i := k) hc0.1 (by omega) hs (by simp only; omega)
  have z := kk p l e s m args below meth c0 H locs cells slots mc ms D cid ad0 ad n0 A ls C R hA hx hn hL (List.forall_mem_cons.mpr ⟨hr, hst⟩) hcz hsz HE
  refine va_get h1 h2 h8 (q_clo ci _ _ _ hcl).1 h7 hK hP c.toNat (q_ws_at hs) hcl k hk (h8 _ hw) (fun _ h => h) (q_fs_at hk) hd ?_
  rw [if_pos hf, hcc]
  exact z
theorem q_g_invV {c : Int} {ci n : Nat} {T : u_T} {N : Nat} (as : List qv) (hE : q_Ev y' cc' nL' rt' d' kc' ks' ((2, c) :: as) (sh, rf, mem) K') (hM : q_MV y' cc' nL' rt' n) (hd : decode cc pc = .ok (.invokevirtual index, 3)) (hw : Cond.methodLink y.cls index y' ∈ q_TB) (hcl : q_cl[ci]? = some (y'.cls, T, N)) (hs : sh[c.toNat]? = some (ci + 5, N)) (hn' : as.length = n) (hdd : d' < d) (hnl : nL' ≤ 21) (hsum : (st.map (fun v => if v.1 = 1 then 2 else 1)).sum ≤ 8)
    (hk : ∀ (r : Int) (σ : qh), K' r σ → q_in32 r → sh.length ≤ σ.1.length → q_AtG y cc nL rt d kc ks G K (pc + 3) L (q_push rt' r st) σ) : q_AtG y cc nL rt d (kc + kc') (ks + ks') G K pc L (as.reverse ++ (2, c) :: st) (sh, rf, mem) := by
  intro p l e s m args below meth c0 H locs cells slots mc ms D cid ad0 ad n0 A ls C R hA hx hn hL hst hcz hsz HE
  obtain ⟨h1, h2, h3, h4, h5, h6, h7, h8⟩ := id C
  obtain ⟨hK, hP, hD, hS, hg, hX, hZ⟩ := id R
  obtain ⟨m1, m2, m3, m4, m5, m6, m7⟩ := hM
  have hst2 : ∀ v ∈ (2, c) :: st, qok sh.length v := fun v hv => hst v (List.mem_append_right _ hv)
  have hc0 := hst2 _ List.mem_cons_self
  have hst3 : ∀ v ∈ st, qok sh.length v := fun v hv => hst2 v (List.mem_cons_of_mem _ hv)
  have has : ∀ v ∈ (2, c) :: as, qok sh.length v := List.forall_mem_cons.mpr ⟨hc0, fun v hv => hst v (List.mem_append_left _ (List.mem_reverse.mpr hv))⟩
  have hMet := hE l D cid ad H.size hg has
  have cw : CallW (q_rm d mc ms) s args y.cls y'.cls index y' cc' nL' rt' (.code y' cc' nL' rt' :: q_TB) (q_rm d' kc' ks') kc' ks' n :=
    ⟨callB_of n h8 (q_goodIn m4) rfl rfl rfl (h8 _ m3) (h8 _ hw) ⟨m5, m6, m7⟩ ⟨by show d' + 1 ≤ d; omega, by show 8 + (nL' + 11) + 40 * d' ≤ 40 * d; omega⟩, h8 _ m1, h8 _ m2⟩
  refine q_back (A1 := va_A (q_ws cid ad (sh, rf, mem)) H.size) (rest := st.map (qe ad)) (va_runV (b := ad c.toNat) (As := as.map (qe ad)) ⟨h1, h2, h3, h7, h8⟩ hMet cw ⟨q_Pc_blind, va_recv hK hP hcl (q_ws_at hs), fun U hU hW => ⟨rfl, by rw [hU], va_K.moved hW.alike hK, by rw [hU]; exact hP, hD.self, hX.warm hW, by rw [hU]; exact ((hZ.kept hS.2.1).narrow (q_A1 hD hS hA)).moved hW.alike⟩⟩ rfl (by rw [List.length_map]; exact hn') hL.1.1 (by simp [qe]) (lv_room (by rw [q_sumcat]; exact hsum)) hd ⟨by show cells + kc' ≤ mc; omega, by show slots + ks' ≤ ms; omega⟩) hS (q_A1 hD hS hA) (fun r σ ad' H1 locs1 k1 k2 k4 k5 k6 k7 k8 k9 => ?_)
  have e1 : List.map (qe ad) st = List.map (qe ad') st := (q_map_ext k4 hst3).symm
  rw [e1, q_push_map]
  refine hk r σ k1 k2 k5 p l e s m args below meth c0 H1 locs1 (cells + kc') (slots + ks') mc ms D cid ad0 ad' n0 A ls C ⟨hK, k6, k7, k9, k8, hX, hZ⟩ hA (fun k hk' => (k4 k (Nat.lt_of_lt_of_le hk' hn)).trans (hx k hk')) (Nat.le_trans hn k5) (hL.ext k4 k5) ?_ (by omega) (by omega) HE
  intro v hv
  cases rt' with
  | none => exact (hst3 v hv).mono k5
  | some t =>
    rcases List.mem_cons.mp hv with h9 | h9
    · subst h9; exact k2
    · exact (hst3 v h9).mono k5
end QG
