theorem q_args_lv {ad : Nat → Nat} : ∀ (vs : List qv) (i : Nat), (∀ v ∈ vs, v.1 < 4 ∧ v.1 ≠ 1) → ∀ (j : Nat) (v : qv), vs[j]? = some v → (i + j, qe ad v) ∈ lv_args i (vs.map (qe ad))
  | [], _, _, j, v, h => by simp at h
  | w :: vs, i, hv, j, v, h => by
    have hw := hv w List.mem_cons_self
    rw [List.map_cons, lv_args, q_cat, if_neg hw.2]
    cases j with
    | zero =>
      simp at h
      subst h
      exact List.mem_cons_self
    | succ j =>
      rw [List.getElem?_cons_succ] at h
      have := q_args_lv (ad := ad) vs (i + 1) (fun v hv' => hv v (List.mem_cons_of_mem _ hv')) j v h
      rw [show i + (j + 1) = i + 1 + j by omega]
      refine List.mem_cons_of_mem _ ?_
      simpa using this
theorem q_sl_len {ad : Nat → Nat} : ∀ (vs : List qv), (∀ v ∈ vs, v.1 < 4 ∧ v.1 ≠ 1) → (lg_sl (vs.map (qe ad))).length = vs.length
  | [], _ => rfl
  | w :: vs, hv => by
    have hw := hv w List.mem_cons_self
    have ih := q_sl_len (ad := ad) vs (fun v hv' => hv v (List.mem_cons_of_mem _ hv'))
    unfold lg_sl at ih ⊢
    rw [List.map_cons, List.flatMap_cons, q_cat, if_neg hw.2]
    simp [ih]
/-- a method's entry -/
theorem q_enter {y : MethodName} {cc : ByteArray} {nL : Nat} {rt : Option FieldType} {d kc ks : Nat} {K : Int → qh → Prop} {as : List qv} {σ : qh} (hy : plainName y.cls = true) (ha : ∀ v ∈ as, v.1 < 4 ∧ v.1 ≠ 1) (hl : as.length ≤ nL) (h : q_At y cc nL rt d kc ks K 0 (as ++ List.replicate (nL - as.length) (4, 0)) [] σ) : q_Ev y cc nL rt d kc ks as σ K := by
  intro l D cid ad sz hg hok
  refine Met.ofW (cc := cc) (maxL := nL) (ret := rt) hy rfl ?_
  intro p e s m args below meth c s₁ B hml hv
  obtain ⟨rfl, hsz, hK, hP, hD, hX, hZ⟩ := hv
  subst hsz
  have hts := atoms_spec (ws := .code y cc nL rt :: q_TB) B.pre
  have hown : s.vm.findClass y.cls = some m.cls := findClass_of_methodNamed B.named
  have hle := q_sl_len (ad := ad) as ha
  have hl2 := lv_entry (as.map (qe ad)) (n := nL) (by rw [hle]; exact hl)
  rw [lg_entry_eq]
  refine h p l e s m _ below meth c s.heap [] 0 0 kc ks D cid ad ad σ.1.length _ _ ⟨B.exec, B.bytes, hml, B.returns, B.notSynchronized, (name_of_methodNamed B.named B.method).1, hown, fun w hw => hts w (List.mem_cons_of_mem _ hw)⟩ ⟨hK, hP, hD, va_S.rf, hg, hX, hZ⟩ (fun q hq => Or.inr hq) (fun _ _ => rfl) (Nat.le_refl _) ⟨q_lv_mono hl2 (fun q hq => ?_), fun v hv => ?_⟩ (fun v hv => by cases hv) (by omega) (by omega)
  · obtain ⟨i, w⟩ := q
    obtain ⟨v, g1, g2, rfl⟩ := q_lv_mem.mp hq
    by_cases hi : i < as.length
    · rw [List.getElem?_append_left hi] at g1
      have := q_args_lv (ad := ad) as 0 ha i v g1
      rwa [Nat.zero_add] at this
    · rw [List.getElem?_append_right (by omega)] at g1
      have := List.mem_of_getElem? g1
      rw [(List.mem_replicate.mp this).2] at g2
      simp at g2
  · rcases List.mem_append.mp hv with h9 | h9
    · exact hok v h9
    · rw [(List.mem_replicate.mp h9).2]; trivial
theorem q_Pc_blind {as : List qv} {σ : qh} {D : va_G} {cid : Nat → ClassId} {ad : Nat → Nat} {sz : Nat} : FrameBlind (q_Pc as σ D cid ad sz) := by
  intro a U g mk q
  obtain ⟨q0, q1, q2, q3, q4, q5, q6⟩ := q
  exact ⟨q0, q1, va_K.moved (u := U) (U := U.calling g mk a) (Vm.Alike.refl U.vm) q2, q3, q4, q5.same rfl, q6.moved (Vm.Alike.refl U.vm)⟩
/-- behind a call -/
theorem q_back {p : Program} {l : Launch} {e : Env} {R : Room} {s : State} {m : MethodId} {args : Array Value} {below : List Frame} {meth : Method} {c : Code} {H : Heap} {locs : List Loc} {cells slots mc ms : Nat} {Q : State → Prop} {pc : Nat} {ls : Array Slot} {st0 rest : List Value} {rt : Option FieldType} {K : Int → qh → Prop} {D : va_G} {cid : Nat → ClassId} {ad : Nat → Nat} {n : Nat} {A A1 : Nat → Prop} {a : Array Value}
    (hr : va_Run p l e R s m args below meth c H locs cells slots mc ms (F0 m pc ls st0) rest (q_Q rt K D cid ad n A1 a) A1) (hS : va_S A s.heap H locs) (hA1 : ∀ q, A1 q → A q)
    (kk : ∀ (r : Int) (σ : qh) (ad' : Nat → Nat) (H1 : Heap) (locs1 : List Loc), K r σ → q_in32 r → (∀ k, k < n → ad' k = ad k) → n ≤ σ.1.length → va_P D q_cl (q_ws cid ad' σ) H1 → va_D A (q_ws cid ad' σ) → q_rg σ → va_S A s.heap H1 locs1 → W p l e R s m args below meth c H1 locs1 (cells + mc) (slots + ms) Q (F0 m (pc + 3) ls ((q_ret rt r).toList ++ rest))) : W p l e R s m args below meth c H locs cells slots Q (F0 m pc ls st0) := by
  intro T hT X
  obtain ⟨v, st₀, t, T', Lx, h0, X', hLx, e1, e2, ⟨⟨r, σ, ad', k1, k2, k3, k4, k5, k6, k7, k8⟩, hz, hk⟩, go⟩ := hr T hT X
  cases k3
  rw [h0] at hz hk
  obtain ⟨t2, a1, b1⟩ := kk r σ ad' T'.heap (locs ++ Lx) k1 k2 k4 k5 (by rw [e1]; exact k6) (k7.weaken (fun _ q _ h => hA1 q.1 h)) k8
    ⟨Nat.le_trans hS.1 (by rw [e1]; exact hz), fun q g1 g2 => by rw [e1, hk q (Nat.lt_of_lt_of_le g1 hS.1) (fun z => g2 (hA1 q z))]; exact hS.2.1 q g1 g2, fun q hq => by
      rcases List.mem_append.mp hq with h | h
      · exact hS.2.2 q h
      · exact hA1 _ (hLx q h)⟩ T' rfl X'
  exact ⟨t2, go t2 a1, b1⟩
theorem q_A1 {A : Nat → Prop} {ws : va_W} {s : State} {H : Heap} {locs : List Loc} (hD : va_D A ws) (hS : va_S A s.heap H locs) (hA : ∀ q, s.heap.size ≤ q → A q) : ∀ q, va_A ws H.size q → A q := by
  intro q h
  rcases h with ⟨k, e, h⟩ | h
  · exact hD.2 k (q, e) h
  · exact hA q (Nat.le_trans hS.1 h)
/-- what the tables say of a method that is called on an object -/
def q_MV (y : MethodName) (cc : ByteArray) (nL : Nat) (rt : Option FieldType) (n : Nat) : Prop := Cond.instanceMethod y ∈ q_TB ∧ Cond.selects y.cls y y ∈ q_TB ∧ Cond.initialized y.cls ∈ q_TB ∧ Cond.code y cc nL rt ∈ q_TB ∧ y.cls ≠ "java/lang/invoke/MethodHandle" ∧ y.cls ≠ "java/lang/invoke/VarHandle" ∧ (parseMethodDescriptor y.desc).map (fun d => d.parameters.length) = some n
def q_MS (y : MethodName) (cc : ByteArray) (nL : Nat) (rt : Option FieldType) (n : Nat) : Prop := Cond.static y ∈ q_TB ∧ Cond.initialized y.cls ∈ q_TB ∧ Cond.code y cc nL rt ∈ q_TB ∧ y.cls ≠ "java/lang/invoke/MethodHandle" ∧ y.cls ≠ "java/lang/invoke/VarHandle" ∧ (parseMethodDescriptor y.desc).map (fun d => d.parameters.length) = some n
def q_MI (y : MethodName) (cc : ByteArray) (nL : Nat) (n : Nat) : Prop := y.name = "<init>" ∧ Cond.instanceMethod y ∈ q_TB ∧ Cond.initialized y.cls ∈ q_TB ∧ Cond.code y cc nL none ∈ q_TB ∧ y.cls ≠ "java/lang/invoke/MethodHandle" ∧ y.cls ≠ "java/lang/invoke/VarHandle" ∧ (parseMethodDescriptor y.desc).map (fun d => d.parameters.length) = some n
theorem q_goodIn {y : MethodName} {cc : ByteArray} {nL : Nat} {rt : Option FieldType} (h : Cond.code y cc nL rt ∈ q_TB) : GoodIn q_TB (.code y cc nL rt :: q_TB) := by
  intro w hw
  rcases List.mem_cons.mp hw with h1 | h1
  · subst h1; exact ⟨h, q_good h⟩
  · exact ⟨h1, q_good h1⟩
def q_push (rt : Option FieldType) (r : Int) (st : List qv) : List qv := match rt with
  | none => st
  | some _ => (0, r) :: st
theorem q_push_map {rt : Option FieldType} {r : Int} {st : List qv} {ad : Nat → Nat} : (q_ret rt r).toList ++ st.map (qe ad) = (q_push rt r st).map (qe ad) := by
  cases rt <;> rfl
theorem q_sumcat {ad : Nat → Nat} : ∀ (st : List qv), ((st.map (qe ad)).map fun v => v.category).sum = (st.map (fun v => if v.1 = 1 then 2 else 1)).sum
  | [] => rfl
  | v :: st => by
    simp only [List.map_cons, List.sum_cons, q_cat]
    rw [← q_sumcat (ad := ad) st]
theorem q_map_ext {ad ad' : Nat → Nat} {n : Nat} {st : List qv} (he : ∀ k, k < n → ad' k = ad k) (h : ∀ v ∈ st, qok n v) : st.map (qe ad') = st.map (qe ad) := List.map_congr_left (fun v hv => qe_ext he (h v hv))
section QC
variable {y : MethodName} {cc : ByteArray} {nL : Nat} {rt : Option FieldType} {d kc ks : Nat} {K : Int → qh → Prop} {pc : Nat} {L st : List qv} {sh : List (Nat × Nat)} {rf mem : qm}
variable {y' : MethodName} {cc' : ByteArray} {nL' : Nat} {rt' : Option FieldType} {d' kc' ks' : Nat} {K' : Int → qh → Prop} {index : Nat}
theorem q_invV {c : Int} {ci n : Nat} {T : u_T} {N : Nat} (as : List qv) (hE : q_Ev y' cc' nL' rt' d' kc' ks' ((2, c) :: as) (sh, rf, mem) K') (hM : q_MV y' cc' nL' rt' n) (hd : decode cc pc = .ok (.invokevirtual index, 3)) (hw : Cond.methodLink y.cls index y' ∈ q_TB) (hcl : q_cl[ci]? = some (y'.cls, T, N)) (hs : sh[c.toNat]? = some (ci + 5, N)) (hn' : as.length = n) (hdd : d' < d) (hnl : nL' ≤ 21) (hsum : (st.map (fun v => if v.1 = 1 then 2 else 1)).sum ≤ 8)
    (hk : ∀ (r : Int) (σ : qh), K' r σ → q_in32 r → sh.length ≤ σ.1.length → q_At y cc nL rt d kc ks K (pc + 3) L (q_push rt' r st) σ) : q_At y cc nL rt d (kc + kc') (ks + ks') K pc L (as.reverse ++ (2, c) :: st) (sh, rf, mem) := by
  intro p l e s m args below meth c0 H locs cells slots mc ms D cid ad0 ad n0 A ls C R hA hx hn hL hst hcz hsz
  obtain ⟨h1, h2, h3, h4, h5, h6, h7, h8⟩ := id C
  obtain ⟨hK, hP, hD, hS, hg, hX, hZ⟩ := id R
  obtain ⟨m1, m2, m3, m4, m5, m6, m7⟩ := hM
  have hst2 : ∀ v ∈ (2, c) :: st, qok sh.length v := fun v hv => hst v (List.mem_append_right _ hv)
  have hc0 := hst2 _ List.mem_cons_self
  have hst3 : ∀ v ∈ st, qok sh.length v := fun v hv => hst2 v (List.mem_cons_of_mem _ hv)
  have has : ∀ v ∈ (2, c) :: as, qok sh.length v := List.forall_mem_cons.mpr ⟨hc0, fun v hv => hst v (List.mem_append_left _ (List.mem_reverse.mpr hv))⟩
  have hMet := hE l D cid ad H.size hg has
  have cw : CallW (q_rm d mc ms) s args y.cls y'.cls index y' cc' nL' rt' (.code y' cc' nL' rt' :: q_TB) (q_rm d' kc' ks') kc' ks' n :=
    ⟨callB_of n h8 (q_goodIn m4) rfl rfl rfl (h8 _ m3) (h8 _ hw) ⟨m5, m6, m7⟩ ⟨by show d' + 1 ≤ d; omega, by show 8 + (nL' + 11) + 40 * d' ≤ 40 * d; omega⟩, h8 _ m1, h8 _ m2⟩
  refine q_back (A1 := va_A (q_ws cid ad (sh, rf, mem)) H.size) (rest := st.map (qe ad)) (va_runV (b := ad c.toNat) (As := as.map (qe ad)) ⟨h1, h2, h3, h7, h8⟩ hMet cw ⟨q_Pc_blind, va_recv hK hP hcl (q_ws_at hs), fun U hU hW => ⟨rfl, by rw [hU], va_K.moved hW.alike hK, by rw [hU]; exact hP, hD.self, hX.warm hW, by rw [hU]; exact ((hZ.kept hS.2.1).narrow (q_A1 hD hS hA)).moved hW.alike⟩⟩ rfl (by rw [List.length_map]; exact hn') hL.1.1 (by simp [qe]) (lv_room (by rw [q_sumcat]; exact hsum)) hd ⟨by show cells + kc' ≤ mc; omega, by show slots + ks' ≤ ms; omega⟩) hS (q_A1 hD hS hA) (fun r σ ad' H1 locs1 k1 k2 k4 k5 k6 k7 k8 k9 => ?_)
  have e1 : List.map (qe ad) st = List.map (qe ad') st := (q_map_ext k4 hst3).symm
  rw [e1, q_push_map]
  refine hk r σ k1 k2 k5 p l e s m args below meth c0 H1 locs1 (cells + kc') (slots + ks') mc ms D cid ad0 ad' n0 A ls C ⟨hK, k6, k7, k9, k8, hX, hZ⟩ hA (fun k hk' => (k4 k (Nat.lt_of_lt_of_le hk' hn)).trans (hx k hk')) (Nat.le_trans hn k5) (hL.ext k4 k5) ?_ (by omega) (by omega)
  intro v hv
  cases rt' with
  | none => exact (hst3 v hv).mono k5
  | some t =>
    rcases List.mem_cons.mp hv with h9 | h9
    · subst h9; exact k2
    · exact (hst3 v h9).mono k5
theorem q_invS {n : Nat} (as : List qv) (hE : q_Ev y' cc' nL' rt' d' kc' ks' as (sh, rf, mem) K') (hM : q_MS y' cc' nL' rt' n) (hd : decode cc pc = .ok (.invokestatic index, 3)) (hw : Cond.methodLink y.cls index y' ∈ q_TB) (hn' : as.length = n) (hdd : d' < d) (hnl : nL' ≤ 21) (hsum : (st.map (fun v => if v.1 = 1 then 2 else 1)).sum ≤ 8)
    (hk : ∀ (r : Int) (σ : qh), K' r σ → q_in32 r → sh.length ≤ σ.1.length → q_At y cc nL rt d kc ks K (pc + 3) L (q_push rt' r st) σ) : q_At y cc nL rt d (kc + kc') (ks + ks') K pc L (as.reverse ++ st) (sh, rf, mem) := by
  intro p l e s m args below meth c0 H locs cells slots mc ms D cid ad0 ad n0 A ls C R hA hx hn hL hst hcz hsz
  obtain ⟨h1, h2, h3, h4, h5, h6, h7, h8⟩ := id C
  obtain ⟨hK, hP, hD, hS, hg, hX, hZ⟩ := id R
  obtain ⟨m1, m3, m4, m5, m6, m7⟩ := hM
  have hst3 : ∀ v ∈ st, qok sh.length v := fun v hv => hst v (List.mem_append_right _ hv)
  have has : ∀ v ∈ as, qok sh.length v := fun v hv => hst v (List.mem_append_left _ (List.mem_reverse.mpr hv))
  have hMet := hE l D cid ad H.size hg has
  have cw : CallB (q_rm d mc ms) s args y.cls index y' cc' nL' rt' (.code y' cc' nL' rt' :: q_TB) (q_rm d' kc' ks') kc' ks' n ∧ (Cond.static y').before args s = true :=
    ⟨callB_of n h8 (q_goodIn m4) rfl rfl rfl (h8 _ m3) (h8 _ hw) ⟨m5, m6, m7⟩ ⟨by show d' + 1 ≤ d; omega, by show 8 + (nL' + 11) + 40 * d' ≤ 40 * d; omega⟩, h8 _ m1⟩
  refine q_back (A1 := va_A (q_ws cid ad (sh, rf, mem)) H.size) (rest := st.map (qe ad)) (va_runS (As := as.map (qe ad)) ⟨h1, h2, h3, h7, h8⟩ hMet cw ⟨q_Pc_blind, fun U hU hW => ⟨rfl, by rw [hU], va_K.moved hW.alike hK, by rw [hU]; exact hP, hD.self, hX.warm hW, by rw [hU]; exact ((hZ.kept hS.2.1).narrow (q_A1 hD hS hA)).moved hW.alike⟩⟩ rfl (by rw [List.length_map]; exact hn') hL.1.1 (by simp) (lv_room (by rw [q_sumcat]; exact hsum)) hd ⟨by show cells + kc' ≤ mc; omega, by show slots + ks' ≤ ms; omega⟩) hS (q_A1 hD hS hA) (fun r σ ad' H1 locs1 k1 k2 k4 k5 k6 k7 k8 k9 => ?_)
  have e1 : List.map (qe ad) st = List.map (qe ad') st := (q_map_ext k4 hst3).symm
  rw [e1, q_push_map]
  refine hk r σ k1 k2 k5 p l e s m args below meth c0 H1 locs1 (cells + kc') (slots + ks') mc ms D cid ad0 ad' n0 A ls C ⟨hK, k6, k7, k9, k8, hX, hZ⟩ hA (fun k hk' => (k4 k (Nat.lt_of_lt_of_le hk' hn)).trans (hx k hk')) (Nat.le_trans hn k5) (hL.ext k4 k5) ?_ (by omega) (by omega)
  intro v hv
  cases rt' with
  | none => exact (hst3 v hv).mono k5
  | some t =>
    rcases List.mem_cons.mp hv with h9 | h9
    · subst h9; exact k2
    · exact (hst3 v h9).mono k5
theorem q_invI {c : Int} {n : Nat} (as : List qv) (hE : q_Ev y' cc' nL' none d' kc' ks' ((2, c) :: as) (sh, rf, mem) K') (hM : q_MI y' cc' nL' n) (hd : decode cc pc = .ok (.invokespecial index, 3)) (hw : Cond.methodLink y.cls index y' ∈ q_TB) (hn' : as.length = n) (hdd : d' < d) (hnl : nL' ≤ 21) (hsum : (st.map (fun v => if v.1 = 1 then 2 else 1)).sum ≤ 8)
    (hk : ∀ (r : Int) (σ : qh), K' r σ → q_in32 r → sh.length ≤ σ.1.length → q_At y cc nL rt d kc ks K (pc + 3) L st σ) : q_At y cc nL rt d (kc + kc') (ks + ks') K pc L (as.reverse ++ (2, c) :: st) (sh, rf, mem) := by
  intro p l e s m args below meth c0 H locs cells slots mc ms D cid ad0 ad n0 A ls C R hA hx hn hL hst hcz hsz
  obtain ⟨h1, h2, h3, h4, h5, h6, h7, h8⟩ := id C
  obtain ⟨hK, hP, hD, hS, hg, hX, hZ⟩ := id R
  obtain ⟨m0, m1, m3, m4, m5, m6, m7⟩ := hM
  have hst2 : ∀ v ∈ (2, c) :: st, qok sh.length v := fun v hv => hst v (List.mem_append_right _ hv)
  have hc0 := hst2 _ List.mem_cons_self
  have hst3 : ∀ v ∈ st, qok sh.length v := fun v hv => hst2 v (List.mem_cons_of_mem _ hv)
  have has : ∀ v ∈ (2, c) :: as, qok sh.length v := List.forall_mem_cons.mpr ⟨hc0, fun v hv => hst v (List.mem_append_left _ (List.mem_reverse.mpr hv))⟩
  have hMet := hE l D cid ad H.size hg has
  have cw : CallB (q_rm d mc ms) s args y.cls index y' cc' nL' none (.code y' cc' nL' none :: q_TB) (q_rm d' kc' ks') kc' ks' n ∧ y'.name = "<init>" ∧ (Cond.instanceMethod y').before args s = true :=
    ⟨callB_of n h8 (q_goodIn m4) rfl rfl rfl (h8 _ m3) (h8 _ hw) ⟨m5, m6, m7⟩ ⟨by show d' + 1 ≤ d; omega, by show 8 + (nL' + 11) + 40 * d' ≤ 40 * d; omega⟩, m0, h8 _ m1⟩
  refine q_back (A1 := va_A (q_ws cid ad (sh, rf, mem)) H.size) (rest := st.map (qe ad)) (va_runI (b := ad c.toNat) (As := as.map (qe ad)) ⟨h1, h2, h3, h7, h8⟩ hMet cw ⟨q_Pc_blind, fun U hU hW => ⟨rfl, by rw [hU], va_K.moved hW.alike hK, by rw [hU]; exact hP, hD.self, hX.warm hW, by rw [hU]; exact ((hZ.kept hS.2.1).narrow (q_A1 hD hS hA)).moved hW.alike⟩⟩ rfl (by rw [List.length_map]; exact hn') hL.1.1 (by simp [qe]) (lv_room (by rw [q_sumcat]; exact hsum)) hd ⟨by show cells + kc' ≤ mc; omega, by show slots + ks' ≤ ms; omega⟩) hS (q_A1 hD hS hA) (fun r σ ad' H1 locs1 k1 k2 k4 k5 k6 k7 k8 k9 => ?_)
  have e1 : List.map (qe ad) st = List.map (qe ad') st := (q_map_ext k4 hst3).symm
  rw [e1]
  exact hk r σ k1 k2 k5 p l e s m args below meth c0 H1 locs1 (cells + kc') (slots + ks') mc ms D cid ad0 ad' n0 A ls C ⟨hK, k6, k7, k9, k8, hX, hZ⟩ hA (fun k hk' => (k4 k (Nat.lt_of_lt_of_le hk' hn)).trans (hx k hk')) (Nat.le_trans hn k5) (hL.ext k4 k5) (fun v hv => (hst3 v hv).mono k5) (by omega) (by omega)
end QC
